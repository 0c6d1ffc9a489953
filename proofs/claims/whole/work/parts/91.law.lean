section MKLAW
variable {p : Program} {l : Launch} {e : Env} {s : State} {m : MethodId} {below : List Frame} {meth : Method} {c : Code} {D : va_G} {nL cells slots : Nat} {Q : State → Prop} {pc : Nat} {ws : va_W} {lv : mk_L} {st : List Value} {cc : ByteArray} {own : String} {tys : List (ClassId × FieldType)} {X Y : Nat → Nat} {R : Room} {args : Array Value} {A : Nat → Prop} {b L : Nat} {xs : Nat → Int32}
theorem mk_sld (C : mk_Cx p s m args c cc nL own D tys X Y A) (hX : va_X b L xs s s.heap) (hbl : b < s.heap.size) (hbA : ¬ A b) {i : Int32} (hin : vp_in i L) (hdg : decode cc pc = .ok (.iaload, 1)) (kk : mk_Go p l e R s m args below meth c D A nL cells slots Q (pc + 1) ws lv (.int (xs i.toNatClampNeg) :: st)) : mk_Go p l e R s m args below meth c D A nL cells slots Q pc ws lv (.int i :: .ref b :: st) :=
  fun H locs ls hP hD hS hl => va_sld C.1.1 C.1.2.1 hX hbl hbA hS hin hdg (kk H locs ls hP hD hS hl)
theorem mk_slenS (C : mk_Cx p s m args c cc nL own D tys X Y A) (hX : va_X b L xs s s.heap) (hbl : b < s.heap.size) (hbA : ¬ A b) (hdg : decode cc pc = .ok (.arraylength, 1)) (kk : mk_Go p l e R s m args below meth c D A nL cells slots Q (pc + 1) ws lv (.int (nI L) :: st)) : mk_Go p l e R s m args below meth c D A nL cells slots Q pc ws lv (.ref b :: st) :=
  fun H locs ls hP hD hS hl => va_slen C.1.1 C.1.2.1 hX hbl hbA hS hdg (kk H locs ls hP hD hS hl)
theorem mk_one1 (C : mk_Cx p s m #[Value.ref b] c code 4 own D tys X Y (fun q => s.heap.size ≤ q)) (hr : meth.sig.returnType = ret) (hlocks : meth.locks = false) (hc : cells ≤ 600000) (hs : slots ≤ 7302250) (hdg : decode code pc = .ok (.ireturn, 1)) : mk_Go p l e room_1 s m #[Value.ref b] below meth c D (fun q => s.heap.size ≤ q) 4 cells slots (lw_Z below #[Value.ref b] s) pc ws lv [.int 1] :=
  fun H locs ls hP hD hS hl => va_forget (fun q hq => hS.2.2 q hq) (W.widen hc hs (lw_ret C.1.1 C.1.2.1 hr hlocks hdg))
theorem mk_callLi (C : mk_Cx p s m args c cc nL own D tys X Y A) {y : MethodName} {cy : ByteArray} {nY index n : Nat} {ret : Option FieldType} {rm : Room} {b ci : Nat} {fs : List Value} {r : vw_C} {As stk : List Value} {wc w1 ws' : va_W} {v : Int32} {mc ms : Nat}
    (hM : mk_Met l y cy nY ret rm D tys X Y (.ref b :: As) wc w1 (some (.int v)) mc ms) (h1 : Cond.methodLink own index y ∈ mk_WL) (h2 : Cond.instanceMethod y ∈ mk_WL) (h3 : Cond.selects y.cls y y ∈ mk_WL) (h4 : Cond.initialized y.cls ∈ mk_WL) (h5 : Cond.code y cy nY ret ∈ mk_WL) (hn : mk_nm y n) (hAs : As.length = n)
    (hR : rm.frames + 1 ≤ R.frames ∧ 8 + (nY + 11) + rm.locals ≤ R.locals) (hrm : rm.cells = mc ∧ rm.slots = ms) (hroom : cells + mc ≤ R.cells ∧ slots + ms ≤ R.slots) (q0 : Nat) (he : ws[q0]? = some (b, .inr (ci, fs))) (hc : vwCl[ci]? = some r) (hr : r.1 = y.cls) (hF : mk_Fr ws wc w1 ws') (hst : (st.map fun v => v.category).sum ≤ 8)
    (hdg : decode cc pc = .ok (.invokevirtual index, 3)) (hs : stk = As.reverse ++ .ref b :: st) (kk : mk_Go p l e R s m args below meth c D A nL (cells + mc) (slots + ms) Q (pc + 3) ws' lv (.int v :: st)) : mk_Go p l e R s m args below meth c D A nL cells slots Q pc ws lv stk :=
  mk_callV C hM h1 h2 h3 h4 h5 hn hAs hR hrm hroom q0 he hc hr hF hst hdg hs kk
theorem mk_callLl (C : mk_Cx p s m args c cc nL own D tys X Y A) {y : MethodName} {cy : ByteArray} {nY index n : Nat} {ret : Option FieldType} {rm : Room} {b ci : Nat} {fs : List Value} {r : vw_C} {As stk : List Value} {wc w1 ws' : va_W} {v : Int64} {mc ms : Nat}
    (hM : mk_Met l y cy nY ret rm D tys X Y (.ref b :: As) wc w1 (some (.long v)) mc ms) (h1 : Cond.methodLink own index y ∈ mk_WL) (h2 : Cond.instanceMethod y ∈ mk_WL) (h3 : Cond.selects y.cls y y ∈ mk_WL) (h4 : Cond.initialized y.cls ∈ mk_WL) (h5 : Cond.code y cy nY ret ∈ mk_WL) (hn : mk_nm y n) (hAs : As.length = n)
    (hR : rm.frames + 1 ≤ R.frames ∧ 8 + (nY + 11) + rm.locals ≤ R.locals) (hrm : rm.cells = mc ∧ rm.slots = ms) (hroom : cells + mc ≤ R.cells ∧ slots + ms ≤ R.slots) (q0 : Nat) (he : ws[q0]? = some (b, .inr (ci, fs))) (hc : vwCl[ci]? = some r) (hr : r.1 = y.cls) (hF : mk_Fr ws wc w1 ws') (hst : (st.map fun v => v.category).sum ≤ 8)
    (hdg : decode cc pc = .ok (.invokevirtual index, 3)) (hs : stk = As.reverse ++ .ref b :: st) (kk : mk_Go p l e R s m args below meth c D A nL (cells + mc) (slots + ms) Q (pc + 3) ws' lv (.long v :: st)) : mk_Go p l e R s m args below meth c D A nL cells slots Q pc ws lv stk :=
  mk_callV C hM h1 h2 h3 h4 h5 hn hAs hR hrm hroom q0 he hc hr hF hst hdg hs kk
end MKLAW
theorem mk_lc {L k : Nat} (hL : L ≤ 3072) (hk : 6 * k ≤ L) (h : ¬ (nI L - 6 < nI (6 * k))) : 6 * k + 6 ≤ L := by
  rw [Int32.lt_iff_toInt_lt, show (6 : Int32) = nI 6 from rfl, pk_sub_toInt (by omega) (by omega), nI_toInt (by omega)] at h
  omega
theorem mk_ix {L k j : Nat} (hL : L ≤ 3072) (hk : 6 * k + 6 ≤ L) (hj : j < 6) {x : Int32} (hx : x = nI j) : vp_in (nI (6 * k) + x) L := by
  rw [hx, nI_add]; exact vp_in_nI (by omega) (by omega)
theorem mkn_X8_add : mk_nm yX8_add 3 := by decide +kernel
theorem mkn_X8_all : mk_nm yX8_all 0 := by decide +kernel
theorem mkn_X8_alone : mk_nm yX8_alone 1 := by decide +kernel
theorem mkn_X8_anew : mk_nm yX8_anew 0 := by decide +kernel
theorem mkn_X8_behind : mk_nm yX8_behind 1 := by decide +kernel
theorem mkn_X8_best : mk_nm yX8_best 1 := by decide +kernel
theorem mkn_X8_by : mk_nm yX8_by 2 := by decide +kernel
theorem mkn_X8_chance : mk_nm yX8_chance 4 := by decide +kernel
theorem mkn_X8_channel : mk_nm yX8_channel 0 := by decide +kernel
theorem mkn_X8_collided : mk_nm yX8_collided 0 := by decide +kernel
theorem mkn_X8_count : mk_nm yX8_count 1 := by decide +kernel
theorem mkn_X8_deepest : mk_nm yX8_deepest 0 := by decide +kernel
theorem mkn_X8_delivered : mk_nm yX8_delivered 1 := by decide +kernel
theorem mkn_X8_disturb : mk_nm yX8_disturb 2 := by decide +kernel
theorem mkn_X8_done : mk_nm yX8_done 0 := by decide +kernel
theorem mkn_X8_end : mk_nm yX8_end 1 := by decide +kernel
theorem mkn_X8_epoch : mk_nm yX8_epoch 2 := by decide +kernel
theorem mkn_X8_epochs : mk_nm yX8_epochs 0 := by decide +kernel
theorem mkn_X8_fault : mk_nm yX8_fault 1 := by decide +kernel
theorem mkn_X8_feed : mk_nm yX8_feed 5 := by decide +kernel
theorem mkn_X8_heard : mk_nm yX8_heard 1 := by decide +kernel
theorem mkn_X8_leaning : mk_nm yX8_leaning 5 := by decide +kernel
theorem mkn_X8_mean : mk_nm yX8_mean 3 := by decide +kernel
theorem mkn_X8_noise : mk_nm yX8_noise 2 := by decide +kernel
theorem mkn_X8_order : mk_nm yX8_order 1 := by decide +kernel
theorem mkn_X8_rule : mk_nm yX8_rule 1 := by decide +kernel
theorem mkn_X8_sender : mk_nm yX8_sender 2 := by decide +kernel
theorem mkn_X8_sends : mk_nm yX8_sends 2 := by decide +kernel
theorem mkn_X8_skips : mk_nm yX8_skips 0 := by decide +kernel
theorem mkn_X8_slot : mk_nm yX8_slot 2 := by decide +kernel
theorem mkn_X8_taken : mk_nm yX8_taken 1 := by decide +kernel
theorem mkn_X8_tries : mk_nm yX8_tries 1 := by decide +kernel
theorem mkn_X8_undo : mk_nm yX8_undo 0 := by decide +kernel
theorem mkn_X8_without : mk_nm yX8_without 1 := by decide +kernel
theorem mkn_X8_worst : mk_nm yX8_worst 0 := by decide +kernel
theorem mkn_X9_add : mk_nm yX9_add 3 := by decide +kernel
theorem mkn_X9_all : mk_nm yX9_all 0 := by decide +kernel
theorem mkn_X9_alone : mk_nm yX9_alone 1 := by decide +kernel
theorem mkn_X9_anew : mk_nm yX9_anew 0 := by decide +kernel
theorem mkn_X9_behind : mk_nm yX9_behind 1 := by decide +kernel
theorem mkn_X9_best : mk_nm yX9_best 1 := by decide +kernel
theorem mkn_X9_by : mk_nm yX9_by 2 := by decide +kernel
theorem mkn_X9_chance : mk_nm yX9_chance 4 := by decide +kernel
theorem mkn_X9_channel : mk_nm yX9_channel 0 := by decide +kernel
theorem mkn_X9_collided : mk_nm yX9_collided 0 := by decide +kernel
theorem mkn_X9_count : mk_nm yX9_count 1 := by decide +kernel
theorem mkn_X9_deepest : mk_nm yX9_deepest 0 := by decide +kernel
theorem mkn_X9_delivered : mk_nm yX9_delivered 1 := by decide +kernel
theorem mkn_X9_disturb : mk_nm yX9_disturb 2 := by decide +kernel
theorem mkn_X9_done : mk_nm yX9_done 0 := by decide +kernel
theorem mkn_X9_end : mk_nm yX9_end 1 := by decide +kernel
theorem mkn_X9_epoch : mk_nm yX9_epoch 2 := by decide +kernel
theorem mkn_X9_epochs : mk_nm yX9_epochs 0 := by decide +kernel
theorem mkn_X9_fault : mk_nm yX9_fault 1 := by decide +kernel
theorem mkn_X9_feed : mk_nm yX9_feed 5 := by decide +kernel
theorem mkn_X9_heard : mk_nm yX9_heard 1 := by decide +kernel
theorem mkn_X9_leaning : mk_nm yX9_leaning 5 := by decide +kernel
theorem mkn_X9_mean : mk_nm yX9_mean 3 := by decide +kernel
theorem mkn_X9_noise : mk_nm yX9_noise 2 := by decide +kernel
theorem mkn_X9_order : mk_nm yX9_order 1 := by decide +kernel
theorem mkn_X9_rule : mk_nm yX9_rule 1 := by decide +kernel
theorem mkn_X9_sender : mk_nm yX9_sender 2 := by decide +kernel
theorem mkn_X9_sends : mk_nm yX9_sends 2 := by decide +kernel
theorem mkn_X9_skips : mk_nm yX9_skips 0 := by decide +kernel
theorem mkn_X9_slot : mk_nm yX9_slot 2 := by decide +kernel
theorem mkn_X9_taken : mk_nm yX9_taken 1 := by decide +kernel
theorem mkn_X9_tries : mk_nm yX9_tries 1 := by decide +kernel
theorem mkn_X9_undo : mk_nm yX9_undo 0 := by decide +kernel
theorem mkn_X9_without : mk_nm yX9_without 1 := by decide +kernel
theorem mkn_X9_worst : mk_nm yX9_worst 0 := by decide +kernel
set_option maxHeartbeats 40000000 in
set_option maxRecDepth 100000 in
theorem law_case0 {p : Program} {l : Launch} {e : Env} {s : State} {m : MethodId} {below : List Frame} {meth : Method} {c : Code} {D : va_G} {X Y : Nat → Nat} {cI cJ : ClassId} {b L : Nat} {xs : Nat → Int32} {aZ aR aT aD aY aP aS aC aO aA aM aX : Nat → Nat} (hL : L ≤ 3072) (C : mk_Cx p s m #[Value.ref b] c code 4 RL D [(cI, .int), (cJ, .long)] X Y (fun q => s.heap.size ≤ q)) (hX : va_X b L xs s s.heap) (hbl : b < s.heap.size) (hr : meth.sig.returnType = ret) (hlk : meth.locks = false) {k : Nat} (hk : 6 * k + 6 ≤ L) {uQ : Nat} {uR uT uD uY uP uS uC uO uA : Nat → Nat → Int32} {uM : Nat → Nat → Int64} {uX : Nat → Nat → Int32} {uL : Nat → Nat → Int64} (hI : mk_Inv uR uT uD uY uP uS uC uO uA uX) (K : ∀ (uQ : Nat) (uR uT uD uY uP uS uC uO uA : Nat → Nat → Int32) (uM : Nat → Nat → Int64) (uX : Nat → Nat → Int32) (uL : Nat → Nat → Int64), mk_Inv uR uT uD uY uP uS uC uO uA uX → mk_Go p l e room_1 s m #[Value.ref b] below meth c D (fun q => s.heap.size ≤ q) 4 (78 + (k + 1)) (15752 + 5 * (k + 1)) (lw_Z below #[Value.ref b] s) 1116 ((wChan aZ aR aT aD aY aP aC aO aA aM ++ (wReader aR aT aD uR ++ (wTape aT cI uT ++ (wPlan aD cI uD ++ (wPlay aY aP aS (mk_crs aC aO uQ) cI uY ++ (wPlan aP cI uP ++ (wStack aS cI uS ++ (wCourse aC cI uC ++ (wCourse aO cI uO ++ (wActs aA cI uA ++ (wMeans aM cJ uM))))))))))) ++ (wModel aX cI cJ uX uL)) [(0, .ref b), (1, .ref (aZ 0)), (2, .ref (aX 0)), (3, .int (nI (6 * k)))] []) : mk_Go p l e room_1 s m #[Value.ref b] below meth c D (fun q => s.heap.size ≤ q) 4 (78 + k) (15752 + 5 * k) (lw_Z below #[Value.ref b] s) 188 ((wChan aZ aR aT aD aY aP aC aO aA aM ++ (wReader aR aT aD uR ++ (wTape aT cI uT ++ (wPlan aD cI uD ++ (wPlay aY aP aS (mk_crs aC aO uQ) cI uY ++ (wPlan aP cI uP ++ (wStack aS cI uS ++ (wCourse aC cI uC ++ (wCourse aO cI uO ++ (wActs aA cI uA ++ (wMeans aM cJ uM))))))))))) ++ (wModel aX cI cJ uX uL)) [(0, .ref b), (1, .ref (aZ 0)), (2, .ref (aX 0)), (3, .int (nI (6 * k)))] [] := by
  obtain ⟨r, wT, wX, hz, hx, hI2⟩ := s_feed  hI (xs (nI (6 * k) + 1).toNatClampNeg) (xs (nI (6 * k) + 2).toNatClampNeg) (xs (nI (6 * k) + 3).toNatClampNeg) (xs (nI (6 * k) + 4).toNatClampNeg) (xs (nI (6 * k) + 5).toNatClampNeg)
  have hA : ¬ (fun q => s.heap.size ≤ q) b := Nat.not_le.mpr hbl
  refine mk_aload_n C 1 dL_law_188 rfl ?_
  refine mk_aload_n C 0 dL_law_189 rfl ?_
  refine mk_iload_n C 3 dL_law_190 rfl ?_
  refine mk_iconst C (v := 1) dL_law_191 (by decide) ?_
  refine mk_iadd C dL_law_192 ?_
  refine mk_sld C hX hbl hA (mk_ix hL hk (j := 1) (by decide) rfl) dL_law_193 ?_
  refine mk_aload_n C 0 dL_law_194 rfl ?_
  refine mk_iload_n C 3 dL_law_195 rfl ?_
  refine mk_iconst C (v := 2) dL_law_196 (by decide) ?_
  refine mk_iadd C dL_law_197 ?_
  refine mk_sld C hX hbl hA (mk_ix hL hk (j := 2) (by decide) rfl) dL_law_198 ?_
  refine mk_aload_n C 0 dL_law_199 rfl ?_
  refine mk_iload_n C 3 dL_law_200 rfl ?_
  refine mk_iconst C (v := 3) dL_law_201 (by decide) ?_
  refine mk_iadd C dL_law_202 ?_
  refine mk_sld C hX hbl hA (mk_ix hL hk (j := 3) (by decide) rfl) dL_law_203 ?_
  refine mk_aload_n C 0 dL_law_204 rfl ?_
  refine mk_iload_n C 3 dL_law_205 rfl ?_
  refine mk_iconst C (v := 4) dL_law_206 (by decide) ?_
  refine mk_iadd C dL_law_207 ?_
  refine mk_sld C hX hbl hA (mk_ix hL hk (j := 4) (by decide) rfl) dL_law_208 ?_
  refine mk_aload_n C 0 dL_law_209 rfl ?_
  refine mk_iload_n C 3 dL_law_210 rfl ?_
  refine mk_iconst C (v := 5) dL_law_211 (by decide) ?_
  refine mk_iadd C dL_law_212 ?_
  refine mk_sld C hX hbl hA (mk_ix hL hk (j := 5) (by decide) rfl) dL_law_213 ?_
  refine mk_callLi C (c_Z_feed l D cI cJ X Y aZ aR aT aD aY aP aS aC aO aA aM uQ uR uT uD uY uP uS uC uO uA uM (xs (nI (6 * k) + 1).toNatClampNeg) (xs (nI (6 * k) + 2).toNatClampNeg) (xs (nI (6 * k) + 3).toNatClampNeg) (xs (nI (6 * k) + 4).toNatClampNeg) (xs (nI (6 * k) + 5).toNatClampNeg) r wT hz) mw_370 mw_371 mw_372 mw_1 mw_373 mkn_X8_feed rfl ⟨Nat.le_of_ble_eq_true rfl, Nat.le_of_ble_eq_true rfl⟩ ⟨rfl, rfl⟩ ⟨by show 78 + k + 0 ≤ 600000; omega, by show 15752 + 5 * k + 0 ≤ 7302250; omega⟩ 0 rfl rfl rfl (mk_Fr.first (wChan aZ aR aT aD aY aP aC aO aA aM ++ (wReader aR aT aD uR ++ (wTape aT cI uT ++ (wPlan aD cI uD ++ (wPlay aY aP aS (mk_crs aC aO uQ) cI uY ++ (wPlan aP cI uP ++ (wStack aS cI uS ++ (wCourse aC cI uC ++ (wCourse aO cI uO ++ (wActs aA cI uA ++ (wMeans aM cJ uM))))))))))) (wModel aX cI cJ uX uL) (wChan aZ aR aT aD aY aP aC aO aA aM ++ (wReader aR aT aD uR ++ (wTape aT cI wT ++ (wPlan aD cI uD ++ (wPlay aY aP aS (mk_crs aC aO uQ) cI uY ++ (wPlan aP cI uP ++ (wStack aS cI uS ++ (wCourse aC cI uC ++ (wCourse aO cI uO ++ (wActs aA cI uA ++ (wMeans aM cJ uM)))))))))))) (Nat.le_of_ble_eq_true rfl) dL_law_214 rfl ?_
  refine mk_aload_n C 2 dL_law_217 rfl ?_
  refine mk_aload_n C 0 dL_law_218 rfl ?_
  refine mk_iload_n C 3 dL_law_219 rfl ?_
  refine mk_iconst C (v := 1) dL_law_220 (by decide) ?_
  refine mk_iadd C dL_law_221 ?_
  refine mk_sld C hX hbl hA (mk_ix hL hk (j := 1) (by decide) rfl) dL_law_222 ?_
  refine mk_aload_n C 0 dL_law_223 rfl ?_
  refine mk_iload_n C 3 dL_law_224 rfl ?_
  refine mk_iconst C (v := 2) dL_law_225 (by decide) ?_
  refine mk_iadd C dL_law_226 ?_
  refine mk_sld C hX hbl hA (mk_ix hL hk (j := 2) (by decide) rfl) dL_law_227 ?_
  refine mk_aload_n C 0 dL_law_228 rfl ?_
  refine mk_iload_n C 3 dL_law_229 rfl ?_
  refine mk_iconst C (v := 3) dL_law_230 (by decide) ?_
  refine mk_iadd C dL_law_231 ?_
  refine mk_sld C hX hbl hA (mk_ix hL hk (j := 3) (by decide) rfl) dL_law_232 ?_
  refine mk_aload_n C 0 dL_law_233 rfl ?_
  refine mk_iload_n C 3 dL_law_234 rfl ?_
  refine mk_iconst C (v := 4) dL_law_235 (by decide) ?_
  refine mk_iadd C dL_law_236 ?_
  refine mk_sld C hX hbl hA (mk_ix hL hk (j := 4) (by decide) rfl) dL_law_237 ?_
  refine mk_aload_n C 0 dL_law_238 rfl ?_
  refine mk_iload_n C 3 dL_law_239 rfl ?_
  refine mk_iconst C (v := 5) dL_law_240 (by decide) ?_
  refine mk_iadd C dL_law_241 ?_
  refine mk_sld C hX hbl hA (mk_ix hL hk (j := 5) (by decide) rfl) dL_law_242 ?_
  refine mk_callLi C (c_X_feed l D cI cJ X Y aX uX uL (xs (nI (6 * k) + 1).toNatClampNeg) (xs (nI (6 * k) + 2).toNatClampNeg) (xs (nI (6 * k) + 3).toNatClampNeg) (xs (nI (6 * k) + 4).toNatClampNeg) (xs (nI (6 * k) + 5).toNatClampNeg) r wX hx) mw_1044 mw_1045 mw_1046 mw_10 mw_1047 mkn_X9_feed rfl ⟨Nat.le_of_ble_eq_true rfl, Nat.le_of_ble_eq_true rfl⟩ ⟨rfl, rfl⟩ ⟨by show 78 + k + 0 + 1 ≤ 600000; omega, by show 15752 + 5 * k + 0 + 5 ≤ 7302250; omega⟩ 55 rfl rfl rfl (mk_Fr.last (wChan aZ aR aT aD aY aP aC aO aA aM ++ (wReader aR aT aD uR ++ (wTape aT cI wT ++ (wPlan aD cI uD ++ (wPlay aY aP aS (mk_crs aC aO uQ) cI uY ++ (wPlan aP cI uP ++ (wStack aS cI uS ++ (wCourse aC cI uC ++ (wCourse aO cI uO ++ (wActs aA cI uA ++ (wMeans aM cJ uM))))))))))) (wModel aX cI cJ uX uL) (wModel aX cI cJ wX uL)) (Nat.le_of_ble_eq_true rfl) dL_law_243 rfl ?_
  refine mk_icmp_eq C 1116 dL_law_246 (by decide) (fun _ => ?_) (fun h9 => absurd rfl h9)
  exact mk_widen (by omega) (by omega) (K uQ uR wT uD uY uP uS uC uO uA uM wX uL hI2)
set_option maxHeartbeats 40000000 in
set_option maxRecDepth 100000 in
theorem law_case1 {p : Program} {l : Launch} {e : Env} {s : State} {m : MethodId} {below : List Frame} {meth : Method} {c : Code} {D : va_G} {X Y : Nat → Nat} {cI cJ : ClassId} {b L : Nat} {xs : Nat → Int32} {aZ aR aT aD aY aP aS aC aO aA aM aX : Nat → Nat} (hL : L ≤ 3072) (C : mk_Cx p s m #[Value.ref b] c code 4 RL D [(cI, .int), (cJ, .long)] X Y (fun q => s.heap.size ≤ q)) (hX : va_X b L xs s s.heap) (hbl : b < s.heap.size) (hr : meth.sig.returnType = ret) (hlk : meth.locks = false) {k : Nat} (hk : 6 * k + 6 ≤ L) {uQ : Nat} {uR uT uD uY uP uS uC uO uA : Nat → Nat → Int32} {uM : Nat → Nat → Int64} {uX : Nat → Nat → Int32} {uL : Nat → Nat → Int64} (hI : mk_Inv uR uT uD uY uP uS uC uO uA uX) (K : ∀ (uQ : Nat) (uR uT uD uY uP uS uC uO uA : Nat → Nat → Int32) (uM : Nat → Nat → Int64) (uX : Nat → Nat → Int32) (uL : Nat → Nat → Int64), mk_Inv uR uT uD uY uP uS uC uO uA uX → mk_Go p l e room_1 s m #[Value.ref b] below meth c D (fun q => s.heap.size ≤ q) 4 (78 + (k + 1)) (15752 + 5 * (k + 1)) (lw_Z below #[Value.ref b] s) 1116 ((wChan aZ aR aT aD aY aP aC aO aA aM ++ (wReader aR aT aD uR ++ (wTape aT cI uT ++ (wPlan aD cI uD ++ (wPlay aY aP aS (mk_crs aC aO uQ) cI uY ++ (wPlan aP cI uP ++ (wStack aS cI uS ++ (wCourse aC cI uC ++ (wCourse aO cI uO ++ (wActs aA cI uA ++ (wMeans aM cJ uM))))))))))) ++ (wModel aX cI cJ uX uL)) [(0, .ref b), (1, .ref (aZ 0)), (2, .ref (aX 0)), (3, .int (nI (6 * k)))] []) : mk_Go p l e room_1 s m #[Value.ref b] below meth c D (fun q => s.heap.size ≤ q) 4 (78 + k) (15752 + 5 * k) (lw_Z below #[Value.ref b] s) 251 ((wChan aZ aR aT aD aY aP aC aO aA aM ++ (wReader aR aT aD uR ++ (wTape aT cI uT ++ (wPlan aD cI uD ++ (wPlay aY aP aS (mk_crs aC aO uQ) cI uY ++ (wPlan aP cI uP ++ (wStack aS cI uS ++ (wCourse aC cI uC ++ (wCourse aO cI uO ++ (wActs aA cI uA ++ (wMeans aM cJ uM))))))))))) ++ (wModel aX cI cJ uX uL)) [(0, .ref b), (1, .ref (aZ 0)), (2, .ref (aX 0)), (3, .int (nI (6 * k)))] [] := by
  obtain ⟨r, wT, wX, hz, hx, hI2⟩ := s_end  hI (xs (nI (6 * k) + 1).toNatClampNeg)
  have hA : ¬ (fun q => s.heap.size ≤ q) b := Nat.not_le.mpr hbl
  refine mk_aload_n C 1 dL_law_251 rfl ?_
  refine mk_aload_n C 0 dL_law_252 rfl ?_
  refine mk_iload_n C 3 dL_law_253 rfl ?_
  refine mk_iconst C (v := 1) dL_law_254 (by decide) ?_
  refine mk_iadd C dL_law_255 ?_
  refine mk_sld C hX hbl hA (mk_ix hL hk (j := 1) (by decide) rfl) dL_law_256 ?_
  refine mk_callLi C (c_Z_end l D cI cJ X Y aZ aR aT aD aY aP aS aC aO aA aM uQ uR uT uD uY uP uS uC uO uA uM (xs (nI (6 * k) + 1).toNatClampNeg) r wT hz) mw_381 mw_382 mw_383 mw_1 mw_384 mkn_X8_end rfl ⟨Nat.le_of_ble_eq_true rfl, Nat.le_of_ble_eq_true rfl⟩ ⟨rfl, rfl⟩ ⟨by show 78 + k + 0 ≤ 600000; omega, by show 15752 + 5 * k + 0 ≤ 7302250; omega⟩ 0 rfl rfl rfl (mk_Fr.first (wChan aZ aR aT aD aY aP aC aO aA aM ++ (wReader aR aT aD uR ++ (wTape aT cI uT ++ (wPlan aD cI uD ++ (wPlay aY aP aS (mk_crs aC aO uQ) cI uY ++ (wPlan aP cI uP ++ (wStack aS cI uS ++ (wCourse aC cI uC ++ (wCourse aO cI uO ++ (wActs aA cI uA ++ (wMeans aM cJ uM))))))))))) (wModel aX cI cJ uX uL) (wChan aZ aR aT aD aY aP aC aO aA aM ++ (wReader aR aT aD uR ++ (wTape aT cI wT ++ (wPlan aD cI uD ++ (wPlay aY aP aS (mk_crs aC aO uQ) cI uY ++ (wPlan aP cI uP ++ (wStack aS cI uS ++ (wCourse aC cI uC ++ (wCourse aO cI uO ++ (wActs aA cI uA ++ (wMeans aM cJ uM)))))))))))) (Nat.le_of_ble_eq_true rfl) dL_law_257 rfl ?_
  refine mk_aload_n C 2 dL_law_260 rfl ?_
  refine mk_aload_n C 0 dL_law_261 rfl ?_
  refine mk_iload_n C 3 dL_law_262 rfl ?_
  refine mk_iconst C (v := 1) dL_law_263 (by decide) ?_
  refine mk_iadd C dL_law_264 ?_
  refine mk_sld C hX hbl hA (mk_ix hL hk (j := 1) (by decide) rfl) dL_law_265 ?_
  refine mk_callLi C (c_X_end l D cI cJ X Y aX uX uL (xs (nI (6 * k) + 1).toNatClampNeg) r wX hx) mw_1048 mw_1049 mw_1050 mw_10 mw_1051 mkn_X9_end rfl ⟨Nat.le_of_ble_eq_true rfl, Nat.le_of_ble_eq_true rfl⟩ ⟨rfl, rfl⟩ ⟨by show 78 + k + 0 + 0 ≤ 600000; omega, by show 15752 + 5 * k + 0 + 0 ≤ 7302250; omega⟩ 55 rfl rfl rfl (mk_Fr.last (wChan aZ aR aT aD aY aP aC aO aA aM ++ (wReader aR aT aD uR ++ (wTape aT cI wT ++ (wPlan aD cI uD ++ (wPlay aY aP aS (mk_crs aC aO uQ) cI uY ++ (wPlan aP cI uP ++ (wStack aS cI uS ++ (wCourse aC cI uC ++ (wCourse aO cI uO ++ (wActs aA cI uA ++ (wMeans aM cJ uM))))))))))) (wModel aX cI cJ uX uL) (wModel aX cI cJ wX uL)) (Nat.le_of_ble_eq_true rfl) dL_law_266 rfl ?_
  refine mk_icmp_eq C 1116 dL_law_269 (by decide) (fun _ => ?_) (fun h9 => absurd rfl h9)
  exact mk_widen (by omega) (by omega) (K uQ uR wT uD uY uP uS uC uO uA uM wX uL hI2)
set_option maxHeartbeats 40000000 in
set_option maxRecDepth 100000 in
theorem law_case2 {p : Program} {l : Launch} {e : Env} {s : State} {m : MethodId} {below : List Frame} {meth : Method} {c : Code} {D : va_G} {X Y : Nat → Nat} {cI cJ : ClassId} {b L : Nat} {xs : Nat → Int32} {aZ aR aT aD aY aP aS aC aO aA aM aX : Nat → Nat} (hL : L ≤ 3072) (C : mk_Cx p s m #[Value.ref b] c code 4 RL D [(cI, .int), (cJ, .long)] X Y (fun q => s.heap.size ≤ q)) (hX : va_X b L xs s s.heap) (hbl : b < s.heap.size) (hr : meth.sig.returnType = ret) (hlk : meth.locks = false) {k : Nat} (hk : 6 * k + 6 ≤ L) {uQ : Nat} {uR uT uD uY uP uS uC uO uA : Nat → Nat → Int32} {uM : Nat → Nat → Int64} {uX : Nat → Nat → Int32} {uL : Nat → Nat → Int64} (hI : mk_Inv uR uT uD uY uP uS uC uO uA uX) (K : ∀ (uQ : Nat) (uR uT uD uY uP uS uC uO uA : Nat → Nat → Int32) (uM : Nat → Nat → Int64) (uX : Nat → Nat → Int32) (uL : Nat → Nat → Int64), mk_Inv uR uT uD uY uP uS uC uO uA uX → mk_Go p l e room_1 s m #[Value.ref b] below meth c D (fun q => s.heap.size ≤ q) 4 (78 + (k + 1)) (15752 + 5 * (k + 1)) (lw_Z below #[Value.ref b] s) 1116 ((wChan aZ aR aT aD aY aP aC aO aA aM ++ (wReader aR aT aD uR ++ (wTape aT cI uT ++ (wPlan aD cI uD ++ (wPlay aY aP aS (mk_crs aC aO uQ) cI uY ++ (wPlan aP cI uP ++ (wStack aS cI uS ++ (wCourse aC cI uC ++ (wCourse aO cI uO ++ (wActs aA cI uA ++ (wMeans aM cJ uM))))))))))) ++ (wModel aX cI cJ uX uL)) [(0, .ref b), (1, .ref (aZ 0)), (2, .ref (aX 0)), (3, .int (nI (6 * k)))] []) : mk_Go p l e room_1 s m #[Value.ref b] below meth c D (fun q => s.heap.size ≤ q) 4 (78 + k) (15752 + 5 * k) (lw_Z below #[Value.ref b] s) 274 ((wChan aZ aR aT aD aY aP aC aO aA aM ++ (wReader aR aT aD uR ++ (wTape aT cI uT ++ (wPlan aD cI uD ++ (wPlay aY aP aS (mk_crs aC aO uQ) cI uY ++ (wPlan aP cI uP ++ (wStack aS cI uS ++ (wCourse aC cI uC ++ (wCourse aO cI uO ++ (wActs aA cI uA ++ (wMeans aM cJ uM))))))))))) ++ (wModel aX cI cJ uX uL)) [(0, .ref b), (1, .ref (aZ 0)), (2, .ref (aX 0)), (3, .int (nI (6 * k)))] [] := by
  obtain ⟨r, wQ, wR, wT, wD, wY, wP, wS, wC, wA, wX, hz, hx, hI2⟩ := s_channel uQ hI 
  have hA : ¬ (fun q => s.heap.size ≤ q) b := Nat.not_le.mpr hbl
  refine mk_aload_n C 1 dL_law_274 rfl ?_
  refine mk_callLi C (c_Z_channel l D cI cJ X Y aZ aR aT aD aY aP aS aC aO aA aM uQ uR uT uD uY uP uS uC uO uA uM r wQ wR wT wD wY wP wS wC wA hz) mw_385 mw_386 mw_387 mw_1 mw_388 mkn_X8_channel rfl ⟨Nat.le_of_ble_eq_true rfl, Nat.le_of_ble_eq_true rfl⟩ ⟨rfl, rfl⟩ ⟨by show 78 + k + 0 ≤ 600000; omega, by show 15752 + 5 * k + 0 ≤ 7302250; omega⟩ 0 rfl rfl rfl (mk_Fr.first (wChan aZ aR aT aD aY aP aC aO aA aM ++ (wReader aR aT aD uR ++ (wTape aT cI uT ++ (wPlan aD cI uD ++ (wPlay aY aP aS (mk_crs aC aO uQ) cI uY ++ (wPlan aP cI uP ++ (wStack aS cI uS ++ (wCourse aC cI uC ++ (wCourse aO cI uO ++ (wActs aA cI uA ++ (wMeans aM cJ uM))))))))))) (wModel aX cI cJ uX uL) (wChan aZ aR aT aD aY aP aC aO aA aM ++ (wReader aR aT aD wR ++ (wTape aT cI wT ++ (wPlan aD cI wD ++ (wPlay aY aP aS (mk_crs aC aO wQ) cI wY ++ (wPlan aP cI wP ++ (wStack aS cI wS ++ (wCourse aC cI wC ++ (wCourse aO cI uO ++ (wActs aA cI wA ++ (wMeans aM cJ uM)))))))))))) (Nat.le_of_ble_eq_true rfl) dL_law_275 rfl ?_
  refine mk_aload_n C 2 dL_law_278 rfl ?_
  refine mk_callLi C (c_X_channel l D cI cJ X Y aX uX uL r wX hx) mw_1055 mw_1056 mw_1057 mw_10 mw_1058 mkn_X9_channel rfl ⟨Nat.le_of_ble_eq_true rfl, Nat.le_of_ble_eq_true rfl⟩ ⟨rfl, rfl⟩ ⟨by show 78 + k + 0 + 0 ≤ 600000; omega, by show 15752 + 5 * k + 0 + 0 ≤ 7302250; omega⟩ 55 rfl rfl rfl (mk_Fr.last (wChan aZ aR aT aD aY aP aC aO aA aM ++ (wReader aR aT aD wR ++ (wTape aT cI wT ++ (wPlan aD cI wD ++ (wPlay aY aP aS (mk_crs aC aO wQ) cI wY ++ (wPlan aP cI wP ++ (wStack aS cI wS ++ (wCourse aC cI wC ++ (wCourse aO cI uO ++ (wActs aA cI wA ++ (wMeans aM cJ uM))))))))))) (wModel aX cI cJ uX uL) (wModel aX cI cJ wX uL)) (Nat.le_of_ble_eq_true rfl) dL_law_279 rfl ?_
  refine mk_icmp_eq C 1116 dL_law_282 (by decide) (fun _ => ?_) (fun h9 => absurd rfl h9)
  exact mk_widen (by omega) (by omega) (K wQ wR wT wD wY wP wS wC uO wA uM wX uL hI2)
set_option maxHeartbeats 40000000 in
set_option maxRecDepth 100000 in
theorem law_case3 {p : Program} {l : Launch} {e : Env} {s : State} {m : MethodId} {below : List Frame} {meth : Method} {c : Code} {D : va_G} {X Y : Nat → Nat} {cI cJ : ClassId} {b L : Nat} {xs : Nat → Int32} {aZ aR aT aD aY aP aS aC aO aA aM aX : Nat → Nat} (hL : L ≤ 3072) (C : mk_Cx p s m #[Value.ref b] c code 4 RL D [(cI, .int), (cJ, .long)] X Y (fun q => s.heap.size ≤ q)) (hX : va_X b L xs s s.heap) (hbl : b < s.heap.size) (hr : meth.sig.returnType = ret) (hlk : meth.locks = false) {k : Nat} (hk : 6 * k + 6 ≤ L) {uQ : Nat} {uR uT uD uY uP uS uC uO uA : Nat → Nat → Int32} {uM : Nat → Nat → Int64} {uX : Nat → Nat → Int32} {uL : Nat → Nat → Int64} (hI : mk_Inv uR uT uD uY uP uS uC uO uA uX) (K : ∀ (uQ : Nat) (uR uT uD uY uP uS uC uO uA : Nat → Nat → Int32) (uM : Nat → Nat → Int64) (uX : Nat → Nat → Int32) (uL : Nat → Nat → Int64), mk_Inv uR uT uD uY uP uS uC uO uA uX → mk_Go p l e room_1 s m #[Value.ref b] below meth c D (fun q => s.heap.size ≤ q) 4 (78 + (k + 1)) (15752 + 5 * (k + 1)) (lw_Z below #[Value.ref b] s) 1116 ((wChan aZ aR aT aD aY aP aC aO aA aM ++ (wReader aR aT aD uR ++ (wTape aT cI uT ++ (wPlan aD cI uD ++ (wPlay aY aP aS (mk_crs aC aO uQ) cI uY ++ (wPlan aP cI uP ++ (wStack aS cI uS ++ (wCourse aC cI uC ++ (wCourse aO cI uO ++ (wActs aA cI uA ++ (wMeans aM cJ uM))))))))))) ++ (wModel aX cI cJ uX uL)) [(0, .ref b), (1, .ref (aZ 0)), (2, .ref (aX 0)), (3, .int (nI (6 * k)))] []) : mk_Go p l e room_1 s m #[Value.ref b] below meth c D (fun q => s.heap.size ≤ q) 4 (78 + k) (15752 + 5 * k) (lw_Z below #[Value.ref b] s) 287 ((wChan aZ aR aT aD aY aP aC aO aA aM ++ (wReader aR aT aD uR ++ (wTape aT cI uT ++ (wPlan aD cI uD ++ (wPlay aY aP aS (mk_crs aC aO uQ) cI uY ++ (wPlan aP cI uP ++ (wStack aS cI uS ++ (wCourse aC cI uC ++ (wCourse aO cI uO ++ (wActs aA cI uA ++ (wMeans aM cJ uM))))))))))) ++ (wModel aX cI cJ uX uL)) [(0, .ref b), (1, .ref (aZ 0)), (2, .ref (aX 0)), (3, .int (nI (6 * k)))] [] := by
  obtain ⟨r, hz, hx, hI2⟩ := s_fault  hI (xs (nI (6 * k) + 1).toNatClampNeg)
  have hA : ¬ (fun q => s.heap.size ≤ q) b := Nat.not_le.mpr hbl
  refine mk_aload_n C 1 dL_law_287 rfl ?_
  refine mk_aload_n C 0 dL_law_288 rfl ?_
  refine mk_iload_n C 3 dL_law_289 rfl ?_
  refine mk_iconst C (v := 1) dL_law_290 (by decide) ?_
  refine mk_iadd C dL_law_291 ?_
  refine mk_sld C hX hbl hA (mk_ix hL hk (j := 1) (by decide) rfl) dL_law_292 ?_
  refine mk_callLi C (c_Z_fault l D cI cJ X Y aZ aR aT aD aY aP aS aC aO aA aM uQ uR uT uD uY uP uS uC uO uA uM (xs (nI (6 * k) + 1).toNatClampNeg) r hz) mw_643 mw_644 mw_645 mw_1 mw_646 mkn_X8_fault rfl ⟨Nat.le_of_ble_eq_true rfl, Nat.le_of_ble_eq_true rfl⟩ ⟨rfl, rfl⟩ ⟨by show 78 + k + 0 ≤ 600000; omega, by show 15752 + 5 * k + 0 ≤ 7302250; omega⟩ 0 rfl rfl rfl (mk_Fr.first (wChan aZ aR aT aD aY aP aC aO aA aM ++ (wReader aR aT aD uR ++ (wTape aT cI uT ++ (wPlan aD cI uD ++ (wPlay aY aP aS (mk_crs aC aO uQ) cI uY ++ (wPlan aP cI uP ++ (wStack aS cI uS ++ (wCourse aC cI uC ++ (wCourse aO cI uO ++ (wActs aA cI uA ++ (wMeans aM cJ uM))))))))))) (wModel aX cI cJ uX uL) (wChan aZ aR aT aD aY aP aC aO aA aM ++ (wReader aR aT aD uR ++ (wTape aT cI uT ++ (wPlan aD cI uD ++ (wPlay aY aP aS (mk_crs aC aO uQ) cI uY ++ (wPlan aP cI uP ++ (wStack aS cI uS ++ (wCourse aC cI uC ++ (wCourse aO cI uO ++ (wActs aA cI uA ++ (wMeans aM cJ uM)))))))))))) (Nat.le_of_ble_eq_true rfl) dL_law_293 rfl ?_
  refine mk_aload_n C 2 dL_law_296 rfl ?_
  refine mk_aload_n C 0 dL_law_297 rfl ?_
  refine mk_iload_n C 3 dL_law_298 rfl ?_
  refine mk_iconst C (v := 1) dL_law_299 (by decide) ?_
  refine mk_iadd C dL_law_300 ?_
  refine mk_sld C hX hbl hA (mk_ix hL hk (j := 1) (by decide) rfl) dL_law_301 ?_
  refine mk_callLi C (c_X_fault l D cI cJ X Y aX uX uL (xs (nI (6 * k) + 1).toNatClampNeg) r hx) mw_1120 mw_1121 mw_1122 mw_10 mw_1123 mkn_X9_fault rfl ⟨Nat.le_of_ble_eq_true rfl, Nat.le_of_ble_eq_true rfl⟩ ⟨rfl, rfl⟩ ⟨by show 78 + k + 0 + 0 ≤ 600000; omega, by show 15752 + 5 * k + 0 + 0 ≤ 7302250; omega⟩ 55 rfl rfl rfl (mk_Fr.last (wChan aZ aR aT aD aY aP aC aO aA aM ++ (wReader aR aT aD uR ++ (wTape aT cI uT ++ (wPlan aD cI uD ++ (wPlay aY aP aS (mk_crs aC aO uQ) cI uY ++ (wPlan aP cI uP ++ (wStack aS cI uS ++ (wCourse aC cI uC ++ (wCourse aO cI uO ++ (wActs aA cI uA ++ (wMeans aM cJ uM))))))))))) (wModel aX cI cJ uX uL) (wModel aX cI cJ uX uL)) (Nat.le_of_ble_eq_true rfl) dL_law_302 rfl ?_
  refine mk_icmp_eq C 1116 dL_law_305 (by decide) (fun _ => ?_) (fun h9 => absurd rfl h9)
  exact mk_widen (by omega) (by omega) (K uQ uR uT uD uY uP uS uC uO uA uM uX uL hI2)
set_option maxHeartbeats 40000000 in
set_option maxRecDepth 100000 in
theorem law_case4 {p : Program} {l : Launch} {e : Env} {s : State} {m : MethodId} {below : List Frame} {meth : Method} {c : Code} {D : va_G} {X Y : Nat → Nat} {cI cJ : ClassId} {b L : Nat} {xs : Nat → Int32} {aZ aR aT aD aY aP aS aC aO aA aM aX : Nat → Nat} (hL : L ≤ 3072) (C : mk_Cx p s m #[Value.ref b] c code 4 RL D [(cI, .int), (cJ, .long)] X Y (fun q => s.heap.size ≤ q)) (hX : va_X b L xs s s.heap) (hbl : b < s.heap.size) (hr : meth.sig.returnType = ret) (hlk : meth.locks = false) {k : Nat} (hk : 6 * k + 6 ≤ L) {uQ : Nat} {uR uT uD uY uP uS uC uO uA : Nat → Nat → Int32} {uM : Nat → Nat → Int64} {uX : Nat → Nat → Int32} {uL : Nat → Nat → Int64} (hI : mk_Inv uR uT uD uY uP uS uC uO uA uX) (K : ∀ (uQ : Nat) (uR uT uD uY uP uS uC uO uA : Nat → Nat → Int32) (uM : Nat → Nat → Int64) (uX : Nat → Nat → Int32) (uL : Nat → Nat → Int64), mk_Inv uR uT uD uY uP uS uC uO uA uX → mk_Go p l e room_1 s m #[Value.ref b] below meth c D (fun q => s.heap.size ≤ q) 4 (78 + (k + 1)) (15752 + 5 * (k + 1)) (lw_Z below #[Value.ref b] s) 1116 ((wChan aZ aR aT aD aY aP aC aO aA aM ++ (wReader aR aT aD uR ++ (wTape aT cI uT ++ (wPlan aD cI uD ++ (wPlay aY aP aS (mk_crs aC aO uQ) cI uY ++ (wPlan aP cI uP ++ (wStack aS cI uS ++ (wCourse aC cI uC ++ (wCourse aO cI uO ++ (wActs aA cI uA ++ (wMeans aM cJ uM))))))))))) ++ (wModel aX cI cJ uX uL)) [(0, .ref b), (1, .ref (aZ 0)), (2, .ref (aX 0)), (3, .int (nI (6 * k)))] []) : mk_Go p l e room_1 s m #[Value.ref b] below meth c D (fun q => s.heap.size ≤ q) 4 (78 + k) (15752 + 5 * k) (lw_Z below #[Value.ref b] s) 310 ((wChan aZ aR aT aD aY aP aC aO aA aM ++ (wReader aR aT aD uR ++ (wTape aT cI uT ++ (wPlan aD cI uD ++ (wPlay aY aP aS (mk_crs aC aO uQ) cI uY ++ (wPlan aP cI uP ++ (wStack aS cI uS ++ (wCourse aC cI uC ++ (wCourse aO cI uO ++ (wActs aA cI uA ++ (wMeans aM cJ uM))))))))))) ++ (wModel aX cI cJ uX uL)) [(0, .ref b), (1, .ref (aZ 0)), (2, .ref (aX 0)), (3, .int (nI (6 * k)))] [] := by
  obtain ⟨r, hz, hx, hI2⟩ := s_count  hI (xs (nI (6 * k) + 1).toNatClampNeg)
  have hA : ¬ (fun q => s.heap.size ≤ q) b := Nat.not_le.mpr hbl
  refine mk_aload_n C 1 dL_law_310 rfl ?_
  refine mk_aload_n C 0 dL_law_311 rfl ?_
  refine mk_iload_n C 3 dL_law_312 rfl ?_
  refine mk_iconst C (v := 1) dL_law_313 (by decide) ?_
  refine mk_iadd C dL_law_314 ?_
  refine mk_sld C hX hbl hA (mk_ix hL hk (j := 1) (by decide) rfl) dL_law_315 ?_
  refine mk_callLi C (c_Z_count l D cI cJ X Y aZ aR aT aD aY aP aS aC aO aA aM uQ uR uT uD uY uP uS uC uO uA uM (xs (nI (6 * k) + 1).toNatClampNeg) r hz) mw_647 mw_648 mw_649 mw_1 mw_650 mkn_X8_count rfl ⟨Nat.le_of_ble_eq_true rfl, Nat.le_of_ble_eq_true rfl⟩ ⟨rfl, rfl⟩ ⟨by show 78 + k + 0 ≤ 600000; omega, by show 15752 + 5 * k + 0 ≤ 7302250; omega⟩ 0 rfl rfl rfl (mk_Fr.first (wChan aZ aR aT aD aY aP aC aO aA aM ++ (wReader aR aT aD uR ++ (wTape aT cI uT ++ (wPlan aD cI uD ++ (wPlay aY aP aS (mk_crs aC aO uQ) cI uY ++ (wPlan aP cI uP ++ (wStack aS cI uS ++ (wCourse aC cI uC ++ (wCourse aO cI uO ++ (wActs aA cI uA ++ (wMeans aM cJ uM))))))))))) (wModel aX cI cJ uX uL) (wChan aZ aR aT aD aY aP aC aO aA aM ++ (wReader aR aT aD uR ++ (wTape aT cI uT ++ (wPlan aD cI uD ++ (wPlay aY aP aS (mk_crs aC aO uQ) cI uY ++ (wPlan aP cI uP ++ (wStack aS cI uS ++ (wCourse aC cI uC ++ (wCourse aO cI uO ++ (wActs aA cI uA ++ (wMeans aM cJ uM)))))))))))) (Nat.le_of_ble_eq_true rfl) dL_law_316 rfl ?_
  refine mk_aload_n C 2 dL_law_319 rfl ?_
  refine mk_aload_n C 0 dL_law_320 rfl ?_
  refine mk_iload_n C 3 dL_law_321 rfl ?_
  refine mk_iconst C (v := 1) dL_law_322 (by decide) ?_
  refine mk_iadd C dL_law_323 ?_
  refine mk_sld C hX hbl hA (mk_ix hL hk (j := 1) (by decide) rfl) dL_law_324 ?_
  refine mk_callLi C (c_X_count l D cI cJ X Y aX uX uL (xs (nI (6 * k) + 1).toNatClampNeg) r hx) mw_1124 mw_1125 mw_1126 mw_10 mw_1127 mkn_X9_count rfl ⟨Nat.le_of_ble_eq_true rfl, Nat.le_of_ble_eq_true rfl⟩ ⟨rfl, rfl⟩ ⟨by show 78 + k + 0 + 0 ≤ 600000; omega, by show 15752 + 5 * k + 0 + 0 ≤ 7302250; omega⟩ 55 rfl rfl rfl (mk_Fr.last (wChan aZ aR aT aD aY aP aC aO aA aM ++ (wReader aR aT aD uR ++ (wTape aT cI uT ++ (wPlan aD cI uD ++ (wPlay aY aP aS (mk_crs aC aO uQ) cI uY ++ (wPlan aP cI uP ++ (wStack aS cI uS ++ (wCourse aC cI uC ++ (wCourse aO cI uO ++ (wActs aA cI uA ++ (wMeans aM cJ uM))))))))))) (wModel aX cI cJ uX uL) (wModel aX cI cJ uX uL)) (Nat.le_of_ble_eq_true rfl) dL_law_325 rfl ?_
  refine mk_icmp_eq C 1116 dL_law_328 (by decide) (fun _ => ?_) (fun h9 => absurd rfl h9)
  exact mk_widen (by omega) (by omega) (K uQ uR uT uD uY uP uS uC uO uA uM uX uL hI2)
set_option maxHeartbeats 40000000 in
set_option maxRecDepth 100000 in
theorem law_case5 {p : Program} {l : Launch} {e : Env} {s : State} {m : MethodId} {below : List Frame} {meth : Method} {c : Code} {D : va_G} {X Y : Nat → Nat} {cI cJ : ClassId} {b L : Nat} {xs : Nat → Int32} {aZ aR aT aD aY aP aS aC aO aA aM aX : Nat → Nat} (hL : L ≤ 3072) (C : mk_Cx p s m #[Value.ref b] c code 4 RL D [(cI, .int), (cJ, .long)] X Y (fun q => s.heap.size ≤ q)) (hX : va_X b L xs s s.heap) (hbl : b < s.heap.size) (hr : meth.sig.returnType = ret) (hlk : meth.locks = false) {k : Nat} (hk : 6 * k + 6 ≤ L) {uQ : Nat} {uR uT uD uY uP uS uC uO uA : Nat → Nat → Int32} {uM : Nat → Nat → Int64} {uX : Nat → Nat → Int32} {uL : Nat → Nat → Int64} (hI : mk_Inv uR uT uD uY uP uS uC uO uA uX) (K : ∀ (uQ : Nat) (uR uT uD uY uP uS uC uO uA : Nat → Nat → Int32) (uM : Nat → Nat → Int64) (uX : Nat → Nat → Int32) (uL : Nat → Nat → Int64), mk_Inv uR uT uD uY uP uS uC uO uA uX → mk_Go p l e room_1 s m #[Value.ref b] below meth c D (fun q => s.heap.size ≤ q) 4 (78 + (k + 1)) (15752 + 5 * (k + 1)) (lw_Z below #[Value.ref b] s) 1116 ((wChan aZ aR aT aD aY aP aC aO aA aM ++ (wReader aR aT aD uR ++ (wTape aT cI uT ++ (wPlan aD cI uD ++ (wPlay aY aP aS (mk_crs aC aO uQ) cI uY ++ (wPlan aP cI uP ++ (wStack aS cI uS ++ (wCourse aC cI uC ++ (wCourse aO cI uO ++ (wActs aA cI uA ++ (wMeans aM cJ uM))))))))))) ++ (wModel aX cI cJ uX uL)) [(0, .ref b), (1, .ref (aZ 0)), (2, .ref (aX 0)), (3, .int (nI (6 * k)))] []) : mk_Go p l e room_1 s m #[Value.ref b] below meth c D (fun q => s.heap.size ≤ q) 4 (78 + k) (15752 + 5 * k) (lw_Z below #[Value.ref b] s) 333 ((wChan aZ aR aT aD aY aP aC aO aA aM ++ (wReader aR aT aD uR ++ (wTape aT cI uT ++ (wPlan aD cI uD ++ (wPlay aY aP aS (mk_crs aC aO uQ) cI uY ++ (wPlan aP cI uP ++ (wStack aS cI uS ++ (wCourse aC cI uC ++ (wCourse aO cI uO ++ (wActs aA cI uA ++ (wMeans aM cJ uM))))))))))) ++ (wModel aX cI cJ uX uL)) [(0, .ref b), (1, .ref (aZ 0)), (2, .ref (aX 0)), (3, .int (nI (6 * k)))] [] := by
  obtain ⟨r, hz, hx, hI2⟩ := s_sender  hI (xs (nI (6 * k) + 1).toNatClampNeg) (xs (nI (6 * k) + 2).toNatClampNeg)
  have hA : ¬ (fun q => s.heap.size ≤ q) b := Nat.not_le.mpr hbl
  refine mk_aload_n C 1 dL_law_333 rfl ?_
  refine mk_aload_n C 0 dL_law_334 rfl ?_
  refine mk_iload_n C 3 dL_law_335 rfl ?_
  refine mk_iconst C (v := 1) dL_law_336 (by decide) ?_
  refine mk_iadd C dL_law_337 ?_
  refine mk_sld C hX hbl hA (mk_ix hL hk (j := 1) (by decide) rfl) dL_law_338 ?_
  refine mk_aload_n C 0 dL_law_339 rfl ?_
  refine mk_iload_n C 3 dL_law_340 rfl ?_
  refine mk_iconst C (v := 2) dL_law_341 (by decide) ?_
  refine mk_iadd C dL_law_342 ?_
  refine mk_sld C hX hbl hA (mk_ix hL hk (j := 2) (by decide) rfl) dL_law_343 ?_
  refine mk_callLi C (c_Z_sender l D cI cJ X Y aZ aR aT aD aY aP aS aC aO aA aM uQ uR uT uD uY uP uS uC uO uA uM (xs (nI (6 * k) + 1).toNatClampNeg) (xs (nI (6 * k) + 2).toNatClampNeg) r hz) mw_651 mw_652 mw_653 mw_1 mw_654 mkn_X8_sender rfl ⟨Nat.le_of_ble_eq_true rfl, Nat.le_of_ble_eq_true rfl⟩ ⟨rfl, rfl⟩ ⟨by show 78 + k + 0 ≤ 600000; omega, by show 15752 + 5 * k + 0 ≤ 7302250; omega⟩ 0 rfl rfl rfl (mk_Fr.first (wChan aZ aR aT aD aY aP aC aO aA aM ++ (wReader aR aT aD uR ++ (wTape aT cI uT ++ (wPlan aD cI uD ++ (wPlay aY aP aS (mk_crs aC aO uQ) cI uY ++ (wPlan aP cI uP ++ (wStack aS cI uS ++ (wCourse aC cI uC ++ (wCourse aO cI uO ++ (wActs aA cI uA ++ (wMeans aM cJ uM))))))))))) (wModel aX cI cJ uX uL) (wChan aZ aR aT aD aY aP aC aO aA aM ++ (wReader aR aT aD uR ++ (wTape aT cI uT ++ (wPlan aD cI uD ++ (wPlay aY aP aS (mk_crs aC aO uQ) cI uY ++ (wPlan aP cI uP ++ (wStack aS cI uS ++ (wCourse aC cI uC ++ (wCourse aO cI uO ++ (wActs aA cI uA ++ (wMeans aM cJ uM)))))))))))) (Nat.le_of_ble_eq_true rfl) dL_law_344 rfl ?_
  refine mk_aload_n C 2 dL_law_347 rfl ?_
  refine mk_aload_n C 0 dL_law_348 rfl ?_
  refine mk_iload_n C 3 dL_law_349 rfl ?_
  refine mk_iconst C (v := 1) dL_law_350 (by decide) ?_
  refine mk_iadd C dL_law_351 ?_
  refine mk_sld C hX hbl hA (mk_ix hL hk (j := 1) (by decide) rfl) dL_law_352 ?_
  refine mk_aload_n C 0 dL_law_353 rfl ?_
  refine mk_iload_n C 3 dL_law_354 rfl ?_
  refine mk_iconst C (v := 2) dL_law_355 (by decide) ?_
  refine mk_iadd C dL_law_356 ?_
  refine mk_sld C hX hbl hA (mk_ix hL hk (j := 2) (by decide) rfl) dL_law_357 ?_
  refine mk_callLi C (c_X_sender l D cI cJ X Y aX uX uL (xs (nI (6 * k) + 1).toNatClampNeg) (xs (nI (6 * k) + 2).toNatClampNeg) r hx) mw_1128 mw_1129 mw_1130 mw_10 mw_1131 mkn_X9_sender rfl ⟨Nat.le_of_ble_eq_true rfl, Nat.le_of_ble_eq_true rfl⟩ ⟨rfl, rfl⟩ ⟨by show 78 + k + 0 + 0 ≤ 600000; omega, by show 15752 + 5 * k + 0 + 0 ≤ 7302250; omega⟩ 55 rfl rfl rfl (mk_Fr.last (wChan aZ aR aT aD aY aP aC aO aA aM ++ (wReader aR aT aD uR ++ (wTape aT cI uT ++ (wPlan aD cI uD ++ (wPlay aY aP aS (mk_crs aC aO uQ) cI uY ++ (wPlan aP cI uP ++ (wStack aS cI uS ++ (wCourse aC cI uC ++ (wCourse aO cI uO ++ (wActs aA cI uA ++ (wMeans aM cJ uM))))))))))) (wModel aX cI cJ uX uL) (wModel aX cI cJ uX uL)) (Nat.le_of_ble_eq_true rfl) dL_law_358 rfl ?_
  refine mk_icmp_eq C 1116 dL_law_361 (by decide) (fun _ => ?_) (fun h9 => absurd rfl h9)
  exact mk_widen (by omega) (by omega) (K uQ uR uT uD uY uP uS uC uO uA uM uX uL hI2)
set_option maxHeartbeats 40000000 in
set_option maxRecDepth 100000 in
theorem law_case6 {p : Program} {l : Launch} {e : Env} {s : State} {m : MethodId} {below : List Frame} {meth : Method} {c : Code} {D : va_G} {X Y : Nat → Nat} {cI cJ : ClassId} {b L : Nat} {xs : Nat → Int32} {aZ aR aT aD aY aP aS aC aO aA aM aX : Nat → Nat} (hL : L ≤ 3072) (C : mk_Cx p s m #[Value.ref b] c code 4 RL D [(cI, .int), (cJ, .long)] X Y (fun q => s.heap.size ≤ q)) (hX : va_X b L xs s s.heap) (hbl : b < s.heap.size) (hr : meth.sig.returnType = ret) (hlk : meth.locks = false) {k : Nat} (hk : 6 * k + 6 ≤ L) {uQ : Nat} {uR uT uD uY uP uS uC uO uA : Nat → Nat → Int32} {uM : Nat → Nat → Int64} {uX : Nat → Nat → Int32} {uL : Nat → Nat → Int64} (hI : mk_Inv uR uT uD uY uP uS uC uO uA uX) (K : ∀ (uQ : Nat) (uR uT uD uY uP uS uC uO uA : Nat → Nat → Int32) (uM : Nat → Nat → Int64) (uX : Nat → Nat → Int32) (uL : Nat → Nat → Int64), mk_Inv uR uT uD uY uP uS uC uO uA uX → mk_Go p l e room_1 s m #[Value.ref b] below meth c D (fun q => s.heap.size ≤ q) 4 (78 + (k + 1)) (15752 + 5 * (k + 1)) (lw_Z below #[Value.ref b] s) 1116 ((wChan aZ aR aT aD aY aP aC aO aA aM ++ (wReader aR aT aD uR ++ (wTape aT cI uT ++ (wPlan aD cI uD ++ (wPlay aY aP aS (mk_crs aC aO uQ) cI uY ++ (wPlan aP cI uP ++ (wStack aS cI uS ++ (wCourse aC cI uC ++ (wCourse aO cI uO ++ (wActs aA cI uA ++ (wMeans aM cJ uM))))))))))) ++ (wModel aX cI cJ uX uL)) [(0, .ref b), (1, .ref (aZ 0)), (2, .ref (aX 0)), (3, .int (nI (6 * k)))] []) : mk_Go p l e room_1 s m #[Value.ref b] below meth c D (fun q => s.heap.size ≤ q) 4 (78 + k) (15752 + 5 * k) (lw_Z below #[Value.ref b] s) 366 ((wChan aZ aR aT aD aY aP aC aO aA aM ++ (wReader aR aT aD uR ++ (wTape aT cI uT ++ (wPlan aD cI uD ++ (wPlay aY aP aS (mk_crs aC aO uQ) cI uY ++ (wPlan aP cI uP ++ (wStack aS cI uS ++ (wCourse aC cI uC ++ (wCourse aO cI uO ++ (wActs aA cI uA ++ (wMeans aM cJ uM))))))))))) ++ (wModel aX cI cJ uX uL)) [(0, .ref b), (1, .ref (aZ 0)), (2, .ref (aX 0)), (3, .int (nI (6 * k)))] [] := by
  obtain ⟨r, wX, hz, hx, hI2⟩ := s_slot  hI (xs (nI (6 * k) + 1).toNatClampNeg) (xs (nI (6 * k) + 2).toNatClampNeg)
  have hA : ¬ (fun q => s.heap.size ≤ q) b := Nat.not_le.mpr hbl
  refine mk_aload_n C 1 dL_law_366 rfl ?_
  refine mk_aload_n C 0 dL_law_367 rfl ?_
  refine mk_iload_n C 3 dL_law_368 rfl ?_
  refine mk_iconst C (v := 1) dL_law_369 (by decide) ?_
  refine mk_iadd C dL_law_370 ?_
  refine mk_sld C hX hbl hA (mk_ix hL hk (j := 1) (by decide) rfl) dL_law_371 ?_
  refine mk_aload_n C 0 dL_law_372 rfl ?_
  refine mk_iload_n C 3 dL_law_373 rfl ?_
  refine mk_iconst C (v := 2) dL_law_374 (by decide) ?_
  refine mk_iadd C dL_law_375 ?_
  refine mk_sld C hX hbl hA (mk_ix hL hk (j := 2) (by decide) rfl) dL_law_376 ?_
  refine mk_callLi C (c_Z_slot l D cI cJ X Y aZ aR aT aD aY aP aS aC aO aA aM uQ uR uT uD uY uP uS uC uO uA uM (xs (nI (6 * k) + 1).toNatClampNeg) (xs (nI (6 * k) + 2).toNatClampNeg) r hz) mw_664 mw_665 mw_666 mw_1 mw_667 mkn_X8_slot rfl ⟨Nat.le_of_ble_eq_true rfl, Nat.le_of_ble_eq_true rfl⟩ ⟨rfl, rfl⟩ ⟨by show 78 + k + 0 ≤ 600000; omega, by show 15752 + 5 * k + 0 ≤ 7302250; omega⟩ 0 rfl rfl rfl (mk_Fr.first (wChan aZ aR aT aD aY aP aC aO aA aM ++ (wReader aR aT aD uR ++ (wTape aT cI uT ++ (wPlan aD cI uD ++ (wPlay aY aP aS (mk_crs aC aO uQ) cI uY ++ (wPlan aP cI uP ++ (wStack aS cI uS ++ (wCourse aC cI uC ++ (wCourse aO cI uO ++ (wActs aA cI uA ++ (wMeans aM cJ uM))))))))))) (wModel aX cI cJ uX uL) (wChan aZ aR aT aD aY aP aC aO aA aM ++ (wReader aR aT aD uR ++ (wTape aT cI uT ++ (wPlan aD cI uD ++ (wPlay aY aP aS (mk_crs aC aO uQ) cI uY ++ (wPlan aP cI uP ++ (wStack aS cI uS ++ (wCourse aC cI uC ++ (wCourse aO cI uO ++ (wActs aA cI uA ++ (wMeans aM cJ uM)))))))))))) (Nat.le_of_ble_eq_true rfl) dL_law_377 rfl ?_
  refine mk_aload_n C 2 dL_law_380 rfl ?_
  refine mk_aload_n C 0 dL_law_381 rfl ?_
  refine mk_iload_n C 3 dL_law_382 rfl ?_
  refine mk_iconst C (v := 1) dL_law_383 (by decide) ?_
  refine mk_iadd C dL_law_384 ?_
  refine mk_sld C hX hbl hA (mk_ix hL hk (j := 1) (by decide) rfl) dL_law_385 ?_
  refine mk_aload_n C 0 dL_law_386 rfl ?_
  refine mk_iload_n C 3 dL_law_387 rfl ?_
  refine mk_iconst C (v := 2) dL_law_388 (by decide) ?_
  refine mk_iadd C dL_law_389 ?_
  refine mk_sld C hX hbl hA (mk_ix hL hk (j := 2) (by decide) rfl) dL_law_390 ?_
  refine mk_callLi C (c_X_slot l D cI cJ X Y aX uX uL (xs (nI (6 * k) + 1).toNatClampNeg) (xs (nI (6 * k) + 2).toNatClampNeg) r wX hx) mw_1145 mw_1146 mw_1147 mw_10 mw_1148 mkn_X9_slot rfl ⟨Nat.le_of_ble_eq_true rfl, Nat.le_of_ble_eq_true rfl⟩ ⟨rfl, rfl⟩ ⟨by show 78 + k + 0 + 0 ≤ 600000; omega, by show 15752 + 5 * k + 0 + 0 ≤ 7302250; omega⟩ 55 rfl rfl rfl (mk_Fr.last (wChan aZ aR aT aD aY aP aC aO aA aM ++ (wReader aR aT aD uR ++ (wTape aT cI uT ++ (wPlan aD cI uD ++ (wPlay aY aP aS (mk_crs aC aO uQ) cI uY ++ (wPlan aP cI uP ++ (wStack aS cI uS ++ (wCourse aC cI uC ++ (wCourse aO cI uO ++ (wActs aA cI uA ++ (wMeans aM cJ uM))))))))))) (wModel aX cI cJ uX uL) (wModel aX cI cJ wX uL)) (Nat.le_of_ble_eq_true rfl) dL_law_391 rfl ?_
  refine mk_icmp_eq C 1116 dL_law_394 (by decide) (fun _ => ?_) (fun h9 => absurd rfl h9)
  exact mk_widen (by omega) (by omega) (K uQ uR uT uD uY uP uS uC uO uA uM wX uL hI2)
set_option maxHeartbeats 40000000 in
set_option maxRecDepth 100000 in
theorem law_case7 {p : Program} {l : Launch} {e : Env} {s : State} {m : MethodId} {below : List Frame} {meth : Method} {c : Code} {D : va_G} {X Y : Nat → Nat} {cI cJ : ClassId} {b L : Nat} {xs : Nat → Int32} {aZ aR aT aD aY aP aS aC aO aA aM aX : Nat → Nat} (hL : L ≤ 3072) (C : mk_Cx p s m #[Value.ref b] c code 4 RL D [(cI, .int), (cJ, .long)] X Y (fun q => s.heap.size ≤ q)) (hX : va_X b L xs s s.heap) (hbl : b < s.heap.size) (hr : meth.sig.returnType = ret) (hlk : meth.locks = false) {k : Nat} (hk : 6 * k + 6 ≤ L) {uQ : Nat} {uR uT uD uY uP uS uC uO uA : Nat → Nat → Int32} {uM : Nat → Nat → Int64} {uX : Nat → Nat → Int32} {uL : Nat → Nat → Int64} (hI : mk_Inv uR uT uD uY uP uS uC uO uA uX) (K : ∀ (uQ : Nat) (uR uT uD uY uP uS uC uO uA : Nat → Nat → Int32) (uM : Nat → Nat → Int64) (uX : Nat → Nat → Int32) (uL : Nat → Nat → Int64), mk_Inv uR uT uD uY uP uS uC uO uA uX → mk_Go p l e room_1 s m #[Value.ref b] below meth c D (fun q => s.heap.size ≤ q) 4 (78 + (k + 1)) (15752 + 5 * (k + 1)) (lw_Z below #[Value.ref b] s) 1116 ((wChan aZ aR aT aD aY aP aC aO aA aM ++ (wReader aR aT aD uR ++ (wTape aT cI uT ++ (wPlan aD cI uD ++ (wPlay aY aP aS (mk_crs aC aO uQ) cI uY ++ (wPlan aP cI uP ++ (wStack aS cI uS ++ (wCourse aC cI uC ++ (wCourse aO cI uO ++ (wActs aA cI uA ++ (wMeans aM cJ uM))))))))))) ++ (wModel aX cI cJ uX uL)) [(0, .ref b), (1, .ref (aZ 0)), (2, .ref (aX 0)), (3, .int (nI (6 * k)))] []) : mk_Go p l e room_1 s m #[Value.ref b] below meth c D (fun q => s.heap.size ≤ q) 4 (78 + k) (15752 + 5 * k) (lw_Z below #[Value.ref b] s) 399 ((wChan aZ aR aT aD aY aP aC aO aA aM ++ (wReader aR aT aD uR ++ (wTape aT cI uT ++ (wPlan aD cI uD ++ (wPlay aY aP aS (mk_crs aC aO uQ) cI uY ++ (wPlan aP cI uP ++ (wStack aS cI uS ++ (wCourse aC cI uC ++ (wCourse aO cI uO ++ (wActs aA cI uA ++ (wMeans aM cJ uM))))))))))) ++ (wModel aX cI cJ uX uL)) [(0, .ref b), (1, .ref (aZ 0)), (2, .ref (aX 0)), (3, .int (nI (6 * k)))] [] := by
  obtain ⟨r, wX, hz, hx, hI2⟩ := s_sends  hI (xs (nI (6 * k) + 1).toNatClampNeg) (xs (nI (6 * k) + 2).toNatClampNeg)
  have hA : ¬ (fun q => s.heap.size ≤ q) b := Nat.not_le.mpr hbl
  refine mk_aload_n C 1 dL_law_399 rfl ?_
  refine mk_aload_n C 0 dL_law_400 rfl ?_
  refine mk_iload_n C 3 dL_law_401 rfl ?_
  refine mk_iconst C (v := 1) dL_law_402 (by decide) ?_
  refine mk_iadd C dL_law_403 ?_
  refine mk_sld C hX hbl hA (mk_ix hL hk (j := 1) (by decide) rfl) dL_law_404 ?_
  refine mk_aload_n C 0 dL_law_405 rfl ?_
  refine mk_iload_n C 3 dL_law_406 rfl ?_
  refine mk_iconst C (v := 2) dL_law_407 (by decide) ?_
  refine mk_iadd C dL_law_408 ?_
  refine mk_sld C hX hbl hA (mk_ix hL hk (j := 2) (by decide) rfl) dL_law_409 ?_
  refine mk_callLi C (c_Z_sends l D cI cJ X Y aZ aR aT aD aY aP aS aC aO aA aM uQ uR uT uD uY uP uS uC uO uA uM (xs (nI (6 * k) + 1).toNatClampNeg) (xs (nI (6 * k) + 2).toNatClampNeg) r hz) mw_673 mw_674 mw_675 mw_1 mw_676 mkn_X8_sends rfl ⟨Nat.le_of_ble_eq_true rfl, Nat.le_of_ble_eq_true rfl⟩ ⟨rfl, rfl⟩ ⟨by show 78 + k + 0 ≤ 600000; omega, by show 15752 + 5 * k + 0 ≤ 7302250; omega⟩ 0 rfl rfl rfl (mk_Fr.first (wChan aZ aR aT aD aY aP aC aO aA aM ++ (wReader aR aT aD uR ++ (wTape aT cI uT ++ (wPlan aD cI uD ++ (wPlay aY aP aS (mk_crs aC aO uQ) cI uY ++ (wPlan aP cI uP ++ (wStack aS cI uS ++ (wCourse aC cI uC ++ (wCourse aO cI uO ++ (wActs aA cI uA ++ (wMeans aM cJ uM))))))))))) (wModel aX cI cJ uX uL) (wChan aZ aR aT aD aY aP aC aO aA aM ++ (wReader aR aT aD uR ++ (wTape aT cI uT ++ (wPlan aD cI uD ++ (wPlay aY aP aS (mk_crs aC aO uQ) cI uY ++ (wPlan aP cI uP ++ (wStack aS cI uS ++ (wCourse aC cI uC ++ (wCourse aO cI uO ++ (wActs aA cI uA ++ (wMeans aM cJ uM)))))))))))) (Nat.le_of_ble_eq_true rfl) dL_law_410 rfl ?_
  refine mk_aload_n C 2 dL_law_413 rfl ?_
  refine mk_aload_n C 0 dL_law_414 rfl ?_
  refine mk_iload_n C 3 dL_law_415 rfl ?_
  refine mk_iconst C (v := 1) dL_law_416 (by decide) ?_
  refine mk_iadd C dL_law_417 ?_
  refine mk_sld C hX hbl hA (mk_ix hL hk (j := 1) (by decide) rfl) dL_law_418 ?_
  refine mk_aload_n C 0 dL_law_419 rfl ?_
  refine mk_iload_n C 3 dL_law_420 rfl ?_
  refine mk_iconst C (v := 2) dL_law_421 (by decide) ?_
  refine mk_iadd C dL_law_422 ?_
  refine mk_sld C hX hbl hA (mk_ix hL hk (j := 2) (by decide) rfl) dL_law_423 ?_
  refine mk_callLi C (c_X_sends l D cI cJ X Y aX uX uL (xs (nI (6 * k) + 1).toNatClampNeg) (xs (nI (6 * k) + 2).toNatClampNeg) r wX hx) mw_1216 mw_1217 mw_1218 mw_10 mw_1219 mkn_X9_sends rfl ⟨Nat.le_of_ble_eq_true rfl, Nat.le_of_ble_eq_true rfl⟩ ⟨rfl, rfl⟩ ⟨by show 78 + k + 0 + 0 ≤ 600000; omega, by show 15752 + 5 * k + 0 + 0 ≤ 7302250; omega⟩ 55 rfl rfl rfl (mk_Fr.last (wChan aZ aR aT aD aY aP aC aO aA aM ++ (wReader aR aT aD uR ++ (wTape aT cI uT ++ (wPlan aD cI uD ++ (wPlay aY aP aS (mk_crs aC aO uQ) cI uY ++ (wPlan aP cI uP ++ (wStack aS cI uS ++ (wCourse aC cI uC ++ (wCourse aO cI uO ++ (wActs aA cI uA ++ (wMeans aM cJ uM))))))))))) (wModel aX cI cJ uX uL) (wModel aX cI cJ wX uL)) (Nat.le_of_ble_eq_true rfl) dL_law_424 rfl ?_
  refine mk_icmp_eq C 1116 dL_law_427 (by decide) (fun _ => ?_) (fun h9 => absurd rfl h9)
  exact mk_widen (by omega) (by omega) (K uQ uR uT uD uY uP uS uC uO uA uM wX uL hI2)
set_option maxHeartbeats 40000000 in
set_option maxRecDepth 100000 in
theorem law_case8 {p : Program} {l : Launch} {e : Env} {s : State} {m : MethodId} {below : List Frame} {meth : Method} {c : Code} {D : va_G} {X Y : Nat → Nat} {cI cJ : ClassId} {b L : Nat} {xs : Nat → Int32} {aZ aR aT aD aY aP aS aC aO aA aM aX : Nat → Nat} (hL : L ≤ 3072) (C : mk_Cx p s m #[Value.ref b] c code 4 RL D [(cI, .int), (cJ, .long)] X Y (fun q => s.heap.size ≤ q)) (hX : va_X b L xs s s.heap) (hbl : b < s.heap.size) (hr : meth.sig.returnType = ret) (hlk : meth.locks = false) {k : Nat} (hk : 6 * k + 6 ≤ L) {uQ : Nat} {uR uT uD uY uP uS uC uO uA : Nat → Nat → Int32} {uM : Nat → Nat → Int64} {uX : Nat → Nat → Int32} {uL : Nat → Nat → Int64} (hI : mk_Inv uR uT uD uY uP uS uC uO uA uX) (K : ∀ (uQ : Nat) (uR uT uD uY uP uS uC uO uA : Nat → Nat → Int32) (uM : Nat → Nat → Int64) (uX : Nat → Nat → Int32) (uL : Nat → Nat → Int64), mk_Inv uR uT uD uY uP uS uC uO uA uX → mk_Go p l e room_1 s m #[Value.ref b] below meth c D (fun q => s.heap.size ≤ q) 4 (78 + (k + 1)) (15752 + 5 * (k + 1)) (lw_Z below #[Value.ref b] s) 1116 ((wChan aZ aR aT aD aY aP aC aO aA aM ++ (wReader aR aT aD uR ++ (wTape aT cI uT ++ (wPlan aD cI uD ++ (wPlay aY aP aS (mk_crs aC aO uQ) cI uY ++ (wPlan aP cI uP ++ (wStack aS cI uS ++ (wCourse aC cI uC ++ (wCourse aO cI uO ++ (wActs aA cI uA ++ (wMeans aM cJ uM))))))))))) ++ (wModel aX cI cJ uX uL)) [(0, .ref b), (1, .ref (aZ 0)), (2, .ref (aX 0)), (3, .int (nI (6 * k)))] []) : mk_Go p l e room_1 s m #[Value.ref b] below meth c D (fun q => s.heap.size ≤ q) 4 (78 + k) (15752 + 5 * k) (lw_Z below #[Value.ref b] s) 432 ((wChan aZ aR aT aD aY aP aC aO aA aM ++ (wReader aR aT aD uR ++ (wTape aT cI uT ++ (wPlan aD cI uD ++ (wPlay aY aP aS (mk_crs aC aO uQ) cI uY ++ (wPlan aP cI uP ++ (wStack aS cI uS ++ (wCourse aC cI uC ++ (wCourse aO cI uO ++ (wActs aA cI uA ++ (wMeans aM cJ uM))))))))))) ++ (wModel aX cI cJ uX uL)) [(0, .ref b), (1, .ref (aZ 0)), (2, .ref (aX 0)), (3, .int (nI (6 * k)))] [] := by
  obtain ⟨r, wX, hz, hx, hI2⟩ := s_delivered  hI (xs (nI (6 * k) + 1).toNatClampNeg)
  have hA : ¬ (fun q => s.heap.size ≤ q) b := Nat.not_le.mpr hbl
  refine mk_aload_n C 1 dL_law_432 rfl ?_
  refine mk_aload_n C 0 dL_law_433 rfl ?_
  refine mk_iload_n C 3 dL_law_434 rfl ?_
  refine mk_iconst C (v := 1) dL_law_435 (by decide) ?_
  refine mk_iadd C dL_law_436 ?_
  refine mk_sld C hX hbl hA (mk_ix hL hk (j := 1) (by decide) rfl) dL_law_437 ?_
  refine mk_callLi C (c_Z_delivered l D cI cJ X Y aZ aR aT aD aY aP aS aC aO aA aM uQ uR uT uD uY uP uS uC uO uA uM (xs (nI (6 * k) + 1).toNatClampNeg) r hz) mw_677 mw_678 mw_679 mw_1 mw_680 mkn_X8_delivered rfl ⟨Nat.le_of_ble_eq_true rfl, Nat.le_of_ble_eq_true rfl⟩ ⟨rfl, rfl⟩ ⟨by show 78 + k + 0 ≤ 600000; omega, by show 15752 + 5 * k + 0 ≤ 7302250; omega⟩ 0 rfl rfl rfl (mk_Fr.first (wChan aZ aR aT aD aY aP aC aO aA aM ++ (wReader aR aT aD uR ++ (wTape aT cI uT ++ (wPlan aD cI uD ++ (wPlay aY aP aS (mk_crs aC aO uQ) cI uY ++ (wPlan aP cI uP ++ (wStack aS cI uS ++ (wCourse aC cI uC ++ (wCourse aO cI uO ++ (wActs aA cI uA ++ (wMeans aM cJ uM))))))))))) (wModel aX cI cJ uX uL) (wChan aZ aR aT aD aY aP aC aO aA aM ++ (wReader aR aT aD uR ++ (wTape aT cI uT ++ (wPlan aD cI uD ++ (wPlay aY aP aS (mk_crs aC aO uQ) cI uY ++ (wPlan aP cI uP ++ (wStack aS cI uS ++ (wCourse aC cI uC ++ (wCourse aO cI uO ++ (wActs aA cI uA ++ (wMeans aM cJ uM)))))))))))) (Nat.le_of_ble_eq_true rfl) dL_law_438 rfl ?_
  refine mk_aload_n C 2 dL_law_441 rfl ?_
  refine mk_aload_n C 0 dL_law_442 rfl ?_
  refine mk_iload_n C 3 dL_law_443 rfl ?_
  refine mk_iconst C (v := 1) dL_law_444 (by decide) ?_
  refine mk_iadd C dL_law_445 ?_
  refine mk_sld C hX hbl hA (mk_ix hL hk (j := 1) (by decide) rfl) dL_law_446 ?_
  refine mk_callLi C (c_X_delivered l D cI cJ X Y aX uX uL (xs (nI (6 * k) + 1).toNatClampNeg) r wX hx) mw_1220 mw_1221 mw_1222 mw_10 mw_1223 mkn_X9_delivered rfl ⟨Nat.le_of_ble_eq_true rfl, Nat.le_of_ble_eq_true rfl⟩ ⟨rfl, rfl⟩ ⟨by show 78 + k + 0 + 0 ≤ 600000; omega, by show 15752 + 5 * k + 0 + 0 ≤ 7302250; omega⟩ 55 rfl rfl rfl (mk_Fr.last (wChan aZ aR aT aD aY aP aC aO aA aM ++ (wReader aR aT aD uR ++ (wTape aT cI uT ++ (wPlan aD cI uD ++ (wPlay aY aP aS (mk_crs aC aO uQ) cI uY ++ (wPlan aP cI uP ++ (wStack aS cI uS ++ (wCourse aC cI uC ++ (wCourse aO cI uO ++ (wActs aA cI uA ++ (wMeans aM cJ uM))))))))))) (wModel aX cI cJ uX uL) (wModel aX cI cJ wX uL)) (Nat.le_of_ble_eq_true rfl) dL_law_447 rfl ?_
  refine mk_icmp_eq C 1116 dL_law_450 (by decide) (fun _ => ?_) (fun h9 => absurd rfl h9)
  exact mk_widen (by omega) (by omega) (K uQ uR uT uD uY uP uS uC uO uA uM wX uL hI2)
set_option maxHeartbeats 40000000 in
set_option maxRecDepth 100000 in
theorem law_case9 {p : Program} {l : Launch} {e : Env} {s : State} {m : MethodId} {below : List Frame} {meth : Method} {c : Code} {D : va_G} {X Y : Nat → Nat} {cI cJ : ClassId} {b L : Nat} {xs : Nat → Int32} {aZ aR aT aD aY aP aS aC aO aA aM aX : Nat → Nat} (hL : L ≤ 3072) (C : mk_Cx p s m #[Value.ref b] c code 4 RL D [(cI, .int), (cJ, .long)] X Y (fun q => s.heap.size ≤ q)) (hX : va_X b L xs s s.heap) (hbl : b < s.heap.size) (hr : meth.sig.returnType = ret) (hlk : meth.locks = false) {k : Nat} (hk : 6 * k + 6 ≤ L) {uQ : Nat} {uR uT uD uY uP uS uC uO uA : Nat → Nat → Int32} {uM : Nat → Nat → Int64} {uX : Nat → Nat → Int32} {uL : Nat → Nat → Int64} (hI : mk_Inv uR uT uD uY uP uS uC uO uA uX) (K : ∀ (uQ : Nat) (uR uT uD uY uP uS uC uO uA : Nat → Nat → Int32) (uM : Nat → Nat → Int64) (uX : Nat → Nat → Int32) (uL : Nat → Nat → Int64), mk_Inv uR uT uD uY uP uS uC uO uA uX → mk_Go p l e room_1 s m #[Value.ref b] below meth c D (fun q => s.heap.size ≤ q) 4 (78 + (k + 1)) (15752 + 5 * (k + 1)) (lw_Z below #[Value.ref b] s) 1116 ((wChan aZ aR aT aD aY aP aC aO aA aM ++ (wReader aR aT aD uR ++ (wTape aT cI uT ++ (wPlan aD cI uD ++ (wPlay aY aP aS (mk_crs aC aO uQ) cI uY ++ (wPlan aP cI uP ++ (wStack aS cI uS ++ (wCourse aC cI uC ++ (wCourse aO cI uO ++ (wActs aA cI uA ++ (wMeans aM cJ uM))))))))))) ++ (wModel aX cI cJ uX uL)) [(0, .ref b), (1, .ref (aZ 0)), (2, .ref (aX 0)), (3, .int (nI (6 * k)))] []) : mk_Go p l e room_1 s m #[Value.ref b] below meth c D (fun q => s.heap.size ≤ q) 4 (78 + k) (15752 + 5 * k) (lw_Z below #[Value.ref b] s) 455 ((wChan aZ aR aT aD aY aP aC aO aA aM ++ (wReader aR aT aD uR ++ (wTape aT cI uT ++ (wPlan aD cI uD ++ (wPlay aY aP aS (mk_crs aC aO uQ) cI uY ++ (wPlan aP cI uP ++ (wStack aS cI uS ++ (wCourse aC cI uC ++ (wCourse aO cI uO ++ (wActs aA cI uA ++ (wMeans aM cJ uM))))))))))) ++ (wModel aX cI cJ uX uL)) [(0, .ref b), (1, .ref (aZ 0)), (2, .ref (aX 0)), (3, .int (nI (6 * k)))] [] := by
  obtain ⟨r, wX, hz, hx, hI2⟩ := s_tries  hI (xs (nI (6 * k) + 1).toNatClampNeg)
  have hA : ¬ (fun q => s.heap.size ≤ q) b := Nat.not_le.mpr hbl
  refine mk_aload_n C 1 dL_law_455 rfl ?_
  refine mk_aload_n C 0 dL_law_456 rfl ?_
  refine mk_iload_n C 3 dL_law_457 rfl ?_
  refine mk_iconst C (v := 1) dL_law_458 (by decide) ?_
  refine mk_iadd C dL_law_459 ?_
  refine mk_sld C hX hbl hA (mk_ix hL hk (j := 1) (by decide) rfl) dL_law_460 ?_
  refine mk_callLi C (c_Z_tries l D cI cJ X Y aZ aR aT aD aY aP aS aC aO aA aM uQ uR uT uD uY uP uS uC uO uA uM (xs (nI (6 * k) + 1).toNatClampNeg) r hz) mw_681 mw_682 mw_683 mw_1 mw_684 mkn_X8_tries rfl ⟨Nat.le_of_ble_eq_true rfl, Nat.le_of_ble_eq_true rfl⟩ ⟨rfl, rfl⟩ ⟨by show 78 + k + 0 ≤ 600000; omega, by show 15752 + 5 * k + 0 ≤ 7302250; omega⟩ 0 rfl rfl rfl (mk_Fr.first (wChan aZ aR aT aD aY aP aC aO aA aM ++ (wReader aR aT aD uR ++ (wTape aT cI uT ++ (wPlan aD cI uD ++ (wPlay aY aP aS (mk_crs aC aO uQ) cI uY ++ (wPlan aP cI uP ++ (wStack aS cI uS ++ (wCourse aC cI uC ++ (wCourse aO cI uO ++ (wActs aA cI uA ++ (wMeans aM cJ uM))))))))))) (wModel aX cI cJ uX uL) (wChan aZ aR aT aD aY aP aC aO aA aM ++ (wReader aR aT aD uR ++ (wTape aT cI uT ++ (wPlan aD cI uD ++ (wPlay aY aP aS (mk_crs aC aO uQ) cI uY ++ (wPlan aP cI uP ++ (wStack aS cI uS ++ (wCourse aC cI uC ++ (wCourse aO cI uO ++ (wActs aA cI uA ++ (wMeans aM cJ uM)))))))))))) (Nat.le_of_ble_eq_true rfl) dL_law_461 rfl ?_
  refine mk_aload_n C 2 dL_law_464 rfl ?_
  refine mk_aload_n C 0 dL_law_465 rfl ?_
  refine mk_iload_n C 3 dL_law_466 rfl ?_
  refine mk_iconst C (v := 1) dL_law_467 (by decide) ?_
  refine mk_iadd C dL_law_468 ?_
  refine mk_sld C hX hbl hA (mk_ix hL hk (j := 1) (by decide) rfl) dL_law_469 ?_
  refine mk_callLi C (c_X_tries l D cI cJ X Y aX uX uL (xs (nI (6 * k) + 1).toNatClampNeg) r wX hx) mw_1224 mw_1225 mw_1226 mw_10 mw_1227 mkn_X9_tries rfl ⟨Nat.le_of_ble_eq_true rfl, Nat.le_of_ble_eq_true rfl⟩ ⟨rfl, rfl⟩ ⟨by show 78 + k + 0 + 0 ≤ 600000; omega, by show 15752 + 5 * k + 0 + 0 ≤ 7302250; omega⟩ 55 rfl rfl rfl (mk_Fr.last (wChan aZ aR aT aD aY aP aC aO aA aM ++ (wReader aR aT aD uR ++ (wTape aT cI uT ++ (wPlan aD cI uD ++ (wPlay aY aP aS (mk_crs aC aO uQ) cI uY ++ (wPlan aP cI uP ++ (wStack aS cI uS ++ (wCourse aC cI uC ++ (wCourse aO cI uO ++ (wActs aA cI uA ++ (wMeans aM cJ uM))))))))))) (wModel aX cI cJ uX uL) (wModel aX cI cJ wX uL)) (Nat.le_of_ble_eq_true rfl) dL_law_470 rfl ?_
  refine mk_icmp_eq C 1116 dL_law_473 (by decide) (fun _ => ?_) (fun h9 => absurd rfl h9)
  exact mk_widen (by omega) (by omega) (K uQ uR uT uD uY uP uS uC uO uA uM wX uL hI2)
set_option maxHeartbeats 40000000 in
set_option maxRecDepth 100000 in
theorem law_case10 {p : Program} {l : Launch} {e : Env} {s : State} {m : MethodId} {below : List Frame} {meth : Method} {c : Code} {D : va_G} {X Y : Nat → Nat} {cI cJ : ClassId} {b L : Nat} {xs : Nat → Int32} {aZ aR aT aD aY aP aS aC aO aA aM aX : Nat → Nat} (hL : L ≤ 3072) (C : mk_Cx p s m #[Value.ref b] c code 4 RL D [(cI, .int), (cJ, .long)] X Y (fun q => s.heap.size ≤ q)) (hX : va_X b L xs s s.heap) (hbl : b < s.heap.size) (hr : meth.sig.returnType = ret) (hlk : meth.locks = false) {k : Nat} (hk : 6 * k + 6 ≤ L) {uQ : Nat} {uR uT uD uY uP uS uC uO uA : Nat → Nat → Int32} {uM : Nat → Nat → Int64} {uX : Nat → Nat → Int32} {uL : Nat → Nat → Int64} (hI : mk_Inv uR uT uD uY uP uS uC uO uA uX) (K : ∀ (uQ : Nat) (uR uT uD uY uP uS uC uO uA : Nat → Nat → Int32) (uM : Nat → Nat → Int64) (uX : Nat → Nat → Int32) (uL : Nat → Nat → Int64), mk_Inv uR uT uD uY uP uS uC uO uA uX → mk_Go p l e room_1 s m #[Value.ref b] below meth c D (fun q => s.heap.size ≤ q) 4 (78 + (k + 1)) (15752 + 5 * (k + 1)) (lw_Z below #[Value.ref b] s) 1116 ((wChan aZ aR aT aD aY aP aC aO aA aM ++ (wReader aR aT aD uR ++ (wTape aT cI uT ++ (wPlan aD cI uD ++ (wPlay aY aP aS (mk_crs aC aO uQ) cI uY ++ (wPlan aP cI uP ++ (wStack aS cI uS ++ (wCourse aC cI uC ++ (wCourse aO cI uO ++ (wActs aA cI uA ++ (wMeans aM cJ uM))))))))))) ++ (wModel aX cI cJ uX uL)) [(0, .ref b), (1, .ref (aZ 0)), (2, .ref (aX 0)), (3, .int (nI (6 * k)))] []) : mk_Go p l e room_1 s m #[Value.ref b] below meth c D (fun q => s.heap.size ≤ q) 4 (78 + k) (15752 + 5 * k) (lw_Z below #[Value.ref b] s) 478 ((wChan aZ aR aT aD aY aP aC aO aA aM ++ (wReader aR aT aD uR ++ (wTape aT cI uT ++ (wPlan aD cI uD ++ (wPlay aY aP aS (mk_crs aC aO uQ) cI uY ++ (wPlan aP cI uP ++ (wStack aS cI uS ++ (wCourse aC cI uC ++ (wCourse aO cI uO ++ (wActs aA cI uA ++ (wMeans aM cJ uM))))))))))) ++ (wModel aX cI cJ uX uL)) [(0, .ref b), (1, .ref (aZ 0)), (2, .ref (aX 0)), (3, .int (nI (6 * k)))] [] := by
  obtain ⟨r, wX, hz, hx, hI2⟩ := s_taken  hI (xs (nI (6 * k) + 1).toNatClampNeg)
  have hA : ¬ (fun q => s.heap.size ≤ q) b := Nat.not_le.mpr hbl
  refine mk_aload_n C 1 dL_law_478 rfl ?_
  refine mk_aload_n C 0 dL_law_479 rfl ?_
  refine mk_iload_n C 3 dL_law_480 rfl ?_
  refine mk_iconst C (v := 1) dL_law_481 (by decide) ?_
  refine mk_iadd C dL_law_482 ?_
  refine mk_sld C hX hbl hA (mk_ix hL hk (j := 1) (by decide) rfl) dL_law_483 ?_
  refine mk_callLi C (c_Z_taken l D cI cJ X Y aZ aR aT aD aY aP aS aC aO aA aM uQ uR uT uD uY uP uS uC uO uA uM (xs (nI (6 * k) + 1).toNatClampNeg) r hz) mw_685 mw_686 mw_687 mw_1 mw_688 mkn_X8_taken rfl ⟨Nat.le_of_ble_eq_true rfl, Nat.le_of_ble_eq_true rfl⟩ ⟨rfl, rfl⟩ ⟨by show 78 + k + 0 ≤ 600000; omega, by show 15752 + 5 * k + 0 ≤ 7302250; omega⟩ 0 rfl rfl rfl (mk_Fr.first (wChan aZ aR aT aD aY aP aC aO aA aM ++ (wReader aR aT aD uR ++ (wTape aT cI uT ++ (wPlan aD cI uD ++ (wPlay aY aP aS (mk_crs aC aO uQ) cI uY ++ (wPlan aP cI uP ++ (wStack aS cI uS ++ (wCourse aC cI uC ++ (wCourse aO cI uO ++ (wActs aA cI uA ++ (wMeans aM cJ uM))))))))))) (wModel aX cI cJ uX uL) (wChan aZ aR aT aD aY aP aC aO aA aM ++ (wReader aR aT aD uR ++ (wTape aT cI uT ++ (wPlan aD cI uD ++ (wPlay aY aP aS (mk_crs aC aO uQ) cI uY ++ (wPlan aP cI uP ++ (wStack aS cI uS ++ (wCourse aC cI uC ++ (wCourse aO cI uO ++ (wActs aA cI uA ++ (wMeans aM cJ uM)))))))))))) (Nat.le_of_ble_eq_true rfl) dL_law_484 rfl ?_
  refine mk_aload_n C 2 dL_law_487 rfl ?_
  refine mk_aload_n C 0 dL_law_488 rfl ?_
  refine mk_iload_n C 3 dL_law_489 rfl ?_
  refine mk_iconst C (v := 1) dL_law_490 (by decide) ?_
  refine mk_iadd C dL_law_491 ?_
  refine mk_sld C hX hbl hA (mk_ix hL hk (j := 1) (by decide) rfl) dL_law_492 ?_
  refine mk_callLi C (c_X_taken l D cI cJ X Y aX uX uL (xs (nI (6 * k) + 1).toNatClampNeg) r wX hx) mw_1228 mw_1229 mw_1230 mw_10 mw_1231 mkn_X9_taken rfl ⟨Nat.le_of_ble_eq_true rfl, Nat.le_of_ble_eq_true rfl⟩ ⟨rfl, rfl⟩ ⟨by show 78 + k + 0 + 0 ≤ 600000; omega, by show 15752 + 5 * k + 0 + 0 ≤ 7302250; omega⟩ 55 rfl rfl rfl (mk_Fr.last (wChan aZ aR aT aD aY aP aC aO aA aM ++ (wReader aR aT aD uR ++ (wTape aT cI uT ++ (wPlan aD cI uD ++ (wPlay aY aP aS (mk_crs aC aO uQ) cI uY ++ (wPlan aP cI uP ++ (wStack aS cI uS ++ (wCourse aC cI uC ++ (wCourse aO cI uO ++ (wActs aA cI uA ++ (wMeans aM cJ uM))))))))))) (wModel aX cI cJ uX uL) (wModel aX cI cJ wX uL)) (Nat.le_of_ble_eq_true rfl) dL_law_493 rfl ?_
  refine mk_icmp_eq C 1116 dL_law_496 (by decide) (fun _ => ?_) (fun h9 => absurd rfl h9)
  exact mk_widen (by omega) (by omega) (K uQ uR uT uD uY uP uS uC uO uA uM wX uL hI2)
set_option maxHeartbeats 40000000 in
set_option maxRecDepth 100000 in
theorem law_case11 {p : Program} {l : Launch} {e : Env} {s : State} {m : MethodId} {below : List Frame} {meth : Method} {c : Code} {D : va_G} {X Y : Nat → Nat} {cI cJ : ClassId} {b L : Nat} {xs : Nat → Int32} {aZ aR aT aD aY aP aS aC aO aA aM aX : Nat → Nat} (hL : L ≤ 3072) (C : mk_Cx p s m #[Value.ref b] c code 4 RL D [(cI, .int), (cJ, .long)] X Y (fun q => s.heap.size ≤ q)) (hX : va_X b L xs s s.heap) (hbl : b < s.heap.size) (hr : meth.sig.returnType = ret) (hlk : meth.locks = false) {k : Nat} (hk : 6 * k + 6 ≤ L) {uQ : Nat} {uR uT uD uY uP uS uC uO uA : Nat → Nat → Int32} {uM : Nat → Nat → Int64} {uX : Nat → Nat → Int32} {uL : Nat → Nat → Int64} (hI : mk_Inv uR uT uD uY uP uS uC uO uA uX) (K : ∀ (uQ : Nat) (uR uT uD uY uP uS uC uO uA : Nat → Nat → Int32) (uM : Nat → Nat → Int64) (uX : Nat → Nat → Int32) (uL : Nat → Nat → Int64), mk_Inv uR uT uD uY uP uS uC uO uA uX → mk_Go p l e room_1 s m #[Value.ref b] below meth c D (fun q => s.heap.size ≤ q) 4 (78 + (k + 1)) (15752 + 5 * (k + 1)) (lw_Z below #[Value.ref b] s) 1116 ((wChan aZ aR aT aD aY aP aC aO aA aM ++ (wReader aR aT aD uR ++ (wTape aT cI uT ++ (wPlan aD cI uD ++ (wPlay aY aP aS (mk_crs aC aO uQ) cI uY ++ (wPlan aP cI uP ++ (wStack aS cI uS ++ (wCourse aC cI uC ++ (wCourse aO cI uO ++ (wActs aA cI uA ++ (wMeans aM cJ uM))))))))))) ++ (wModel aX cI cJ uX uL)) [(0, .ref b), (1, .ref (aZ 0)), (2, .ref (aX 0)), (3, .int (nI (6 * k)))] []) : mk_Go p l e room_1 s m #[Value.ref b] below meth c D (fun q => s.heap.size ≤ q) 4 (78 + k) (15752 + 5 * k) (lw_Z below #[Value.ref b] s) 501 ((wChan aZ aR aT aD aY aP aC aO aA aM ++ (wReader aR aT aD uR ++ (wTape aT cI uT ++ (wPlan aD cI uD ++ (wPlay aY aP aS (mk_crs aC aO uQ) cI uY ++ (wPlan aP cI uP ++ (wStack aS cI uS ++ (wCourse aC cI uC ++ (wCourse aO cI uO ++ (wActs aA cI uA ++ (wMeans aM cJ uM))))))))))) ++ (wModel aX cI cJ uX uL)) [(0, .ref b), (1, .ref (aZ 0)), (2, .ref (aX 0)), (3, .int (nI (6 * k)))] [] := by
  obtain ⟨r, wX, hz, hx, hI2⟩ := s_order  hI (xs (nI (6 * k) + 1).toNatClampNeg)
  have hA : ¬ (fun q => s.heap.size ≤ q) b := Nat.not_le.mpr hbl
  refine mk_aload_n C 1 dL_law_501 rfl ?_
  refine mk_aload_n C 0 dL_law_502 rfl ?_
  refine mk_iload_n C 3 dL_law_503 rfl ?_
  refine mk_iconst C (v := 1) dL_law_504 (by decide) ?_
  refine mk_iadd C dL_law_505 ?_
  refine mk_sld C hX hbl hA (mk_ix hL hk (j := 1) (by decide) rfl) dL_law_506 ?_
  refine mk_callLi C (c_Z_order l D cI cJ X Y aZ aR aT aD aY aP aS aC aO aA aM uQ uR uT uD uY uP uS uC uO uA uM (xs (nI (6 * k) + 1).toNatClampNeg) r hz) mw_689 mw_690 mw_691 mw_1 mw_692 mkn_X8_order rfl ⟨Nat.le_of_ble_eq_true rfl, Nat.le_of_ble_eq_true rfl⟩ ⟨rfl, rfl⟩ ⟨by show 78 + k + 0 ≤ 600000; omega, by show 15752 + 5 * k + 0 ≤ 7302250; omega⟩ 0 rfl rfl rfl (mk_Fr.first (wChan aZ aR aT aD aY aP aC aO aA aM ++ (wReader aR aT aD uR ++ (wTape aT cI uT ++ (wPlan aD cI uD ++ (wPlay aY aP aS (mk_crs aC aO uQ) cI uY ++ (wPlan aP cI uP ++ (wStack aS cI uS ++ (wCourse aC cI uC ++ (wCourse aO cI uO ++ (wActs aA cI uA ++ (wMeans aM cJ uM))))))))))) (wModel aX cI cJ uX uL) (wChan aZ aR aT aD aY aP aC aO aA aM ++ (wReader aR aT aD uR ++ (wTape aT cI uT ++ (wPlan aD cI uD ++ (wPlay aY aP aS (mk_crs aC aO uQ) cI uY ++ (wPlan aP cI uP ++ (wStack aS cI uS ++ (wCourse aC cI uC ++ (wCourse aO cI uO ++ (wActs aA cI uA ++ (wMeans aM cJ uM)))))))))))) (Nat.le_of_ble_eq_true rfl) dL_law_507 rfl ?_
  refine mk_aload_n C 2 dL_law_510 rfl ?_
  refine mk_aload_n C 0 dL_law_511 rfl ?_
  refine mk_iload_n C 3 dL_law_512 rfl ?_
  refine mk_iconst C (v := 1) dL_law_513 (by decide) ?_
  refine mk_iadd C dL_law_514 ?_
  refine mk_sld C hX hbl hA (mk_ix hL hk (j := 1) (by decide) rfl) dL_law_515 ?_
  refine mk_callLi C (c_X_order l D cI cJ X Y aX uX uL (xs (nI (6 * k) + 1).toNatClampNeg) r wX hx) mw_1232 mw_1233 mw_1234 mw_10 mw_1235 mkn_X9_order rfl ⟨Nat.le_of_ble_eq_true rfl, Nat.le_of_ble_eq_true rfl⟩ ⟨rfl, rfl⟩ ⟨by show 78 + k + 0 + 0 ≤ 600000; omega, by show 15752 + 5 * k + 0 + 0 ≤ 7302250; omega⟩ 55 rfl rfl rfl (mk_Fr.last (wChan aZ aR aT aD aY aP aC aO aA aM ++ (wReader aR aT aD uR ++ (wTape aT cI uT ++ (wPlan aD cI uD ++ (wPlay aY aP aS (mk_crs aC aO uQ) cI uY ++ (wPlan aP cI uP ++ (wStack aS cI uS ++ (wCourse aC cI uC ++ (wCourse aO cI uO ++ (wActs aA cI uA ++ (wMeans aM cJ uM))))))))))) (wModel aX cI cJ uX uL) (wModel aX cI cJ wX uL)) (Nat.le_of_ble_eq_true rfl) dL_law_516 rfl ?_
  refine mk_icmp_eq C 1116 dL_law_519 (by decide) (fun _ => ?_) (fun h9 => absurd rfl h9)
  exact mk_widen (by omega) (by omega) (K uQ uR uT uD uY uP uS uC uO uA uM wX uL hI2)
set_option maxHeartbeats 40000000 in
set_option maxRecDepth 100000 in
theorem law_case12 {p : Program} {l : Launch} {e : Env} {s : State} {m : MethodId} {below : List Frame} {meth : Method} {c : Code} {D : va_G} {X Y : Nat → Nat} {cI cJ : ClassId} {b L : Nat} {xs : Nat → Int32} {aZ aR aT aD aY aP aS aC aO aA aM aX : Nat → Nat} (hL : L ≤ 3072) (C : mk_Cx p s m #[Value.ref b] c code 4 RL D [(cI, .int), (cJ, .long)] X Y (fun q => s.heap.size ≤ q)) (hX : va_X b L xs s s.heap) (hbl : b < s.heap.size) (hr : meth.sig.returnType = ret) (hlk : meth.locks = false) {k : Nat} (hk : 6 * k + 6 ≤ L) {uQ : Nat} {uR uT uD uY uP uS uC uO uA : Nat → Nat → Int32} {uM : Nat → Nat → Int64} {uX : Nat → Nat → Int32} {uL : Nat → Nat → Int64} (hI : mk_Inv uR uT uD uY uP uS uC uO uA uX) (K : ∀ (uQ : Nat) (uR uT uD uY uP uS uC uO uA : Nat → Nat → Int32) (uM : Nat → Nat → Int64) (uX : Nat → Nat → Int32) (uL : Nat → Nat → Int64), mk_Inv uR uT uD uY uP uS uC uO uA uX → mk_Go p l e room_1 s m #[Value.ref b] below meth c D (fun q => s.heap.size ≤ q) 4 (78 + (k + 1)) (15752 + 5 * (k + 1)) (lw_Z below #[Value.ref b] s) 1116 ((wChan aZ aR aT aD aY aP aC aO aA aM ++ (wReader aR aT aD uR ++ (wTape aT cI uT ++ (wPlan aD cI uD ++ (wPlay aY aP aS (mk_crs aC aO uQ) cI uY ++ (wPlan aP cI uP ++ (wStack aS cI uS ++ (wCourse aC cI uC ++ (wCourse aO cI uO ++ (wActs aA cI uA ++ (wMeans aM cJ uM))))))))))) ++ (wModel aX cI cJ uX uL)) [(0, .ref b), (1, .ref (aZ 0)), (2, .ref (aX 0)), (3, .int (nI (6 * k)))] []) : mk_Go p l e room_1 s m #[Value.ref b] below meth c D (fun q => s.heap.size ≤ q) 4 (78 + k) (15752 + 5 * k) (lw_Z below #[Value.ref b] s) 524 ((wChan aZ aR aT aD aY aP aC aO aA aM ++ (wReader aR aT aD uR ++ (wTape aT cI uT ++ (wPlan aD cI uD ++ (wPlay aY aP aS (mk_crs aC aO uQ) cI uY ++ (wPlan aP cI uP ++ (wStack aS cI uS ++ (wCourse aC cI uC ++ (wCourse aO cI uO ++ (wActs aA cI uA ++ (wMeans aM cJ uM))))))))))) ++ (wModel aX cI cJ uX uL)) [(0, .ref b), (1, .ref (aZ 0)), (2, .ref (aX 0)), (3, .int (nI (6 * k)))] [] := by
  obtain ⟨r, wX, hz, hx, hI2⟩ := s_all  hI 
  have hA : ¬ (fun q => s.heap.size ≤ q) b := Nat.not_le.mpr hbl
  refine mk_aload_n C 1 dL_law_524 rfl ?_
  refine mk_callLi C (c_Z_all l D cI cJ X Y aZ aR aT aD aY aP aS aC aO aA aM uQ uR uT uD uY uP uS uC uO uA uM r hz) mw_697 mw_698 mw_699 mw_1 mw_700 mkn_X8_all rfl ⟨Nat.le_of_ble_eq_true rfl, Nat.le_of_ble_eq_true rfl⟩ ⟨rfl, rfl⟩ ⟨by show 78 + k + 0 ≤ 600000; omega, by show 15752 + 5 * k + 0 ≤ 7302250; omega⟩ 0 rfl rfl rfl (mk_Fr.first (wChan aZ aR aT aD aY aP aC aO aA aM ++ (wReader aR aT aD uR ++ (wTape aT cI uT ++ (wPlan aD cI uD ++ (wPlay aY aP aS (mk_crs aC aO uQ) cI uY ++ (wPlan aP cI uP ++ (wStack aS cI uS ++ (wCourse aC cI uC ++ (wCourse aO cI uO ++ (wActs aA cI uA ++ (wMeans aM cJ uM))))))))))) (wModel aX cI cJ uX uL) (wChan aZ aR aT aD aY aP aC aO aA aM ++ (wReader aR aT aD uR ++ (wTape aT cI uT ++ (wPlan aD cI uD ++ (wPlay aY aP aS (mk_crs aC aO uQ) cI uY ++ (wPlan aP cI uP ++ (wStack aS cI uS ++ (wCourse aC cI uC ++ (wCourse aO cI uO ++ (wActs aA cI uA ++ (wMeans aM cJ uM)))))))))))) (Nat.le_of_ble_eq_true rfl) dL_law_525 rfl ?_
  refine mk_aload_n C 2 dL_law_528 rfl ?_
  refine mk_callLi C (c_X_all l D cI cJ X Y aX uX uL r wX hx) mw_1236 mw_1237 mw_1238 mw_10 mw_1239 mkn_X9_all rfl ⟨Nat.le_of_ble_eq_true rfl, Nat.le_of_ble_eq_true rfl⟩ ⟨rfl, rfl⟩ ⟨by show 78 + k + 0 + 0 ≤ 600000; omega, by show 15752 + 5 * k + 0 + 0 ≤ 7302250; omega⟩ 55 rfl rfl rfl (mk_Fr.last (wChan aZ aR aT aD aY aP aC aO aA aM ++ (wReader aR aT aD uR ++ (wTape aT cI uT ++ (wPlan aD cI uD ++ (wPlay aY aP aS (mk_crs aC aO uQ) cI uY ++ (wPlan aP cI uP ++ (wStack aS cI uS ++ (wCourse aC cI uC ++ (wCourse aO cI uO ++ (wActs aA cI uA ++ (wMeans aM cJ uM))))))))))) (wModel aX cI cJ uX uL) (wModel aX cI cJ wX uL)) (Nat.le_of_ble_eq_true rfl) dL_law_529 rfl ?_
  refine mk_icmp_eq C 1116 dL_law_532 (by decide) (fun _ => ?_) (fun h9 => absurd rfl h9)
  exact mk_widen (by omega) (by omega) (K uQ uR uT uD uY uP uS uC uO uA uM wX uL hI2)
set_option maxHeartbeats 40000000 in
set_option maxRecDepth 100000 in
theorem law_case13 {p : Program} {l : Launch} {e : Env} {s : State} {m : MethodId} {below : List Frame} {meth : Method} {c : Code} {D : va_G} {X Y : Nat → Nat} {cI cJ : ClassId} {b L : Nat} {xs : Nat → Int32} {aZ aR aT aD aY aP aS aC aO aA aM aX : Nat → Nat} (hL : L ≤ 3072) (C : mk_Cx p s m #[Value.ref b] c code 4 RL D [(cI, .int), (cJ, .long)] X Y (fun q => s.heap.size ≤ q)) (hX : va_X b L xs s s.heap) (hbl : b < s.heap.size) (hr : meth.sig.returnType = ret) (hlk : meth.locks = false) {k : Nat} (hk : 6 * k + 6 ≤ L) {uQ : Nat} {uR uT uD uY uP uS uC uO uA : Nat → Nat → Int32} {uM : Nat → Nat → Int64} {uX : Nat → Nat → Int32} {uL : Nat → Nat → Int64} (hI : mk_Inv uR uT uD uY uP uS uC uO uA uX) (K : ∀ (uQ : Nat) (uR uT uD uY uP uS uC uO uA : Nat → Nat → Int32) (uM : Nat → Nat → Int64) (uX : Nat → Nat → Int32) (uL : Nat → Nat → Int64), mk_Inv uR uT uD uY uP uS uC uO uA uX → mk_Go p l e room_1 s m #[Value.ref b] below meth c D (fun q => s.heap.size ≤ q) 4 (78 + (k + 1)) (15752 + 5 * (k + 1)) (lw_Z below #[Value.ref b] s) 1116 ((wChan aZ aR aT aD aY aP aC aO aA aM ++ (wReader aR aT aD uR ++ (wTape aT cI uT ++ (wPlan aD cI uD ++ (wPlay aY aP aS (mk_crs aC aO uQ) cI uY ++ (wPlan aP cI uP ++ (wStack aS cI uS ++ (wCourse aC cI uC ++ (wCourse aO cI uO ++ (wActs aA cI uA ++ (wMeans aM cJ uM))))))))))) ++ (wModel aX cI cJ uX uL)) [(0, .ref b), (1, .ref (aZ 0)), (2, .ref (aX 0)), (3, .int (nI (6 * k)))] []) : mk_Go p l e room_1 s m #[Value.ref b] below meth c D (fun q => s.heap.size ≤ q) 4 (78 + k) (15752 + 5 * k) (lw_Z below #[Value.ref b] s) 537 ((wChan aZ aR aT aD aY aP aC aO aA aM ++ (wReader aR aT aD uR ++ (wTape aT cI uT ++ (wPlan aD cI uD ++ (wPlay aY aP aS (mk_crs aC aO uQ) cI uY ++ (wPlan aP cI uP ++ (wStack aS cI uS ++ (wCourse aC cI uC ++ (wCourse aO cI uO ++ (wActs aA cI uA ++ (wMeans aM cJ uM))))))))))) ++ (wModel aX cI cJ uX uL)) [(0, .ref b), (1, .ref (aZ 0)), (2, .ref (aX 0)), (3, .int (nI (6 * k)))] [] := by
  obtain ⟨r, wX, hz, hx, hI2⟩ := s_done  hI 
  have hA : ¬ (fun q => s.heap.size ≤ q) b := Nat.not_le.mpr hbl
  refine mk_aload_n C 1 dL_law_537 rfl ?_
  refine mk_callLi C (c_Z_done l D cI cJ X Y aZ aR aT aD aY aP aS aC aO aA aM uQ uR uT uD uY uP uS uC uO uA uM r hz) mw_701 mw_702 mw_703 mw_1 mw_704 mkn_X8_done rfl ⟨Nat.le_of_ble_eq_true rfl, Nat.le_of_ble_eq_true rfl⟩ ⟨rfl, rfl⟩ ⟨by show 78 + k + 0 ≤ 600000; omega, by show 15752 + 5 * k + 0 ≤ 7302250; omega⟩ 0 rfl rfl rfl (mk_Fr.first (wChan aZ aR aT aD aY aP aC aO aA aM ++ (wReader aR aT aD uR ++ (wTape aT cI uT ++ (wPlan aD cI uD ++ (wPlay aY aP aS (mk_crs aC aO uQ) cI uY ++ (wPlan aP cI uP ++ (wStack aS cI uS ++ (wCourse aC cI uC ++ (wCourse aO cI uO ++ (wActs aA cI uA ++ (wMeans aM cJ uM))))))))))) (wModel aX cI cJ uX uL) (wChan aZ aR aT aD aY aP aC aO aA aM ++ (wReader aR aT aD uR ++ (wTape aT cI uT ++ (wPlan aD cI uD ++ (wPlay aY aP aS (mk_crs aC aO uQ) cI uY ++ (wPlan aP cI uP ++ (wStack aS cI uS ++ (wCourse aC cI uC ++ (wCourse aO cI uO ++ (wActs aA cI uA ++ (wMeans aM cJ uM)))))))))))) (Nat.le_of_ble_eq_true rfl) dL_law_538 rfl ?_
  refine mk_aload_n C 2 dL_law_541 rfl ?_
  refine mk_callLi C (c_X_done l D cI cJ X Y aX uX uL r wX hx) mw_1240 mw_1241 mw_1242 mw_10 mw_1243 mkn_X9_done rfl ⟨Nat.le_of_ble_eq_true rfl, Nat.le_of_ble_eq_true rfl⟩ ⟨rfl, rfl⟩ ⟨by show 78 + k + 0 + 0 ≤ 600000; omega, by show 15752 + 5 * k + 0 + 0 ≤ 7302250; omega⟩ 55 rfl rfl rfl (mk_Fr.last (wChan aZ aR aT aD aY aP aC aO aA aM ++ (wReader aR aT aD uR ++ (wTape aT cI uT ++ (wPlan aD cI uD ++ (wPlay aY aP aS (mk_crs aC aO uQ) cI uY ++ (wPlan aP cI uP ++ (wStack aS cI uS ++ (wCourse aC cI uC ++ (wCourse aO cI uO ++ (wActs aA cI uA ++ (wMeans aM cJ uM))))))))))) (wModel aX cI cJ uX uL) (wModel aX cI cJ wX uL)) (Nat.le_of_ble_eq_true rfl) dL_law_542 rfl ?_
  refine mk_icmp_eq C 1116 dL_law_545 (by decide) (fun _ => ?_) (fun h9 => absurd rfl h9)
  exact mk_widen (by omega) (by omega) (K uQ uR uT uD uY uP uS uC uO uA uM wX uL hI2)
set_option maxHeartbeats 40000000 in
set_option maxRecDepth 100000 in
theorem law_case14 {p : Program} {l : Launch} {e : Env} {s : State} {m : MethodId} {below : List Frame} {meth : Method} {c : Code} {D : va_G} {X Y : Nat → Nat} {cI cJ : ClassId} {b L : Nat} {xs : Nat → Int32} {aZ aR aT aD aY aP aS aC aO aA aM aX : Nat → Nat} (hL : L ≤ 3072) (C : mk_Cx p s m #[Value.ref b] c code 4 RL D [(cI, .int), (cJ, .long)] X Y (fun q => s.heap.size ≤ q)) (hX : va_X b L xs s s.heap) (hbl : b < s.heap.size) (hr : meth.sig.returnType = ret) (hlk : meth.locks = false) {k : Nat} (hk : 6 * k + 6 ≤ L) {uQ : Nat} {uR uT uD uY uP uS uC uO uA : Nat → Nat → Int32} {uM : Nat → Nat → Int64} {uX : Nat → Nat → Int32} {uL : Nat → Nat → Int64} (hI : mk_Inv uR uT uD uY uP uS uC uO uA uX) (K : ∀ (uQ : Nat) (uR uT uD uY uP uS uC uO uA : Nat → Nat → Int32) (uM : Nat → Nat → Int64) (uX : Nat → Nat → Int32) (uL : Nat → Nat → Int64), mk_Inv uR uT uD uY uP uS uC uO uA uX → mk_Go p l e room_1 s m #[Value.ref b] below meth c D (fun q => s.heap.size ≤ q) 4 (78 + (k + 1)) (15752 + 5 * (k + 1)) (lw_Z below #[Value.ref b] s) 1116 ((wChan aZ aR aT aD aY aP aC aO aA aM ++ (wReader aR aT aD uR ++ (wTape aT cI uT ++ (wPlan aD cI uD ++ (wPlay aY aP aS (mk_crs aC aO uQ) cI uY ++ (wPlan aP cI uP ++ (wStack aS cI uS ++ (wCourse aC cI uC ++ (wCourse aO cI uO ++ (wActs aA cI uA ++ (wMeans aM cJ uM))))))))))) ++ (wModel aX cI cJ uX uL)) [(0, .ref b), (1, .ref (aZ 0)), (2, .ref (aX 0)), (3, .int (nI (6 * k)))] []) : mk_Go p l e room_1 s m #[Value.ref b] below meth c D (fun q => s.heap.size ≤ q) 4 (78 + k) (15752 + 5 * k) (lw_Z below #[Value.ref b] s) 550 ((wChan aZ aR aT aD aY aP aC aO aA aM ++ (wReader aR aT aD uR ++ (wTape aT cI uT ++ (wPlan aD cI uD ++ (wPlay aY aP aS (mk_crs aC aO uQ) cI uY ++ (wPlan aP cI uP ++ (wStack aS cI uS ++ (wCourse aC cI uC ++ (wCourse aO cI uO ++ (wActs aA cI uA ++ (wMeans aM cJ uM))))))))))) ++ (wModel aX cI cJ uX uL)) [(0, .ref b), (1, .ref (aZ 0)), (2, .ref (aX 0)), (3, .int (nI (6 * k)))] [] := by
  obtain ⟨r, wX, hz, hx, hI2⟩ := s_heard  hI (xs (nI (6 * k) + 1).toNatClampNeg)
  have hA : ¬ (fun q => s.heap.size ≤ q) b := Nat.not_le.mpr hbl
  refine mk_aload_n C 1 dL_law_550 rfl ?_
  refine mk_aload_n C 0 dL_law_551 rfl ?_
  refine mk_iload_n C 3 dL_law_552 rfl ?_
  refine mk_iconst C (v := 1) dL_law_553 (by decide) ?_
  refine mk_iadd C dL_law_554 ?_
  refine mk_sld C hX hbl hA (mk_ix hL hk (j := 1) (by decide) rfl) dL_law_555 ?_
  refine mk_callLi C (c_Z_heard l D cI cJ X Y aZ aR aT aD aY aP aS aC aO aA aM uQ uR uT uD uY uP uS uC uO uA uM (xs (nI (6 * k) + 1).toNatClampNeg) r hz) mw_710 mw_711 mw_712 mw_1 mw_713 mkn_X8_heard rfl ⟨Nat.le_of_ble_eq_true rfl, Nat.le_of_ble_eq_true rfl⟩ ⟨rfl, rfl⟩ ⟨by show 78 + k + 0 ≤ 600000; omega, by show 15752 + 5 * k + 0 ≤ 7302250; omega⟩ 0 rfl rfl rfl (mk_Fr.first (wChan aZ aR aT aD aY aP aC aO aA aM ++ (wReader aR aT aD uR ++ (wTape aT cI uT ++ (wPlan aD cI uD ++ (wPlay aY aP aS (mk_crs aC aO uQ) cI uY ++ (wPlan aP cI uP ++ (wStack aS cI uS ++ (wCourse aC cI uC ++ (wCourse aO cI uO ++ (wActs aA cI uA ++ (wMeans aM cJ uM))))))))))) (wModel aX cI cJ uX uL) (wChan aZ aR aT aD aY aP aC aO aA aM ++ (wReader aR aT aD uR ++ (wTape aT cI uT ++ (wPlan aD cI uD ++ (wPlay aY aP aS (mk_crs aC aO uQ) cI uY ++ (wPlan aP cI uP ++ (wStack aS cI uS ++ (wCourse aC cI uC ++ (wCourse aO cI uO ++ (wActs aA cI uA ++ (wMeans aM cJ uM)))))))))))) (Nat.le_of_ble_eq_true rfl) dL_law_556 rfl ?_
  refine mk_aload_n C 2 dL_law_559 rfl ?_
  refine mk_aload_n C 0 dL_law_560 rfl ?_
  refine mk_iload_n C 3 dL_law_561 rfl ?_
  refine mk_iconst C (v := 1) dL_law_562 (by decide) ?_
  refine mk_iadd C dL_law_563 ?_
  refine mk_sld C hX hbl hA (mk_ix hL hk (j := 1) (by decide) rfl) dL_law_564 ?_
  refine mk_callLi C (c_X_heard l D cI cJ X Y aX uX uL (xs (nI (6 * k) + 1).toNatClampNeg) r wX hx) mw_1248 mw_1249 mw_1250 mw_10 mw_1251 mkn_X9_heard rfl ⟨Nat.le_of_ble_eq_true rfl, Nat.le_of_ble_eq_true rfl⟩ ⟨rfl, rfl⟩ ⟨by show 78 + k + 0 + 0 ≤ 600000; omega, by show 15752 + 5 * k + 0 + 0 ≤ 7302250; omega⟩ 55 rfl rfl rfl (mk_Fr.last (wChan aZ aR aT aD aY aP aC aO aA aM ++ (wReader aR aT aD uR ++ (wTape aT cI uT ++ (wPlan aD cI uD ++ (wPlay aY aP aS (mk_crs aC aO uQ) cI uY ++ (wPlan aP cI uP ++ (wStack aS cI uS ++ (wCourse aC cI uC ++ (wCourse aO cI uO ++ (wActs aA cI uA ++ (wMeans aM cJ uM))))))))))) (wModel aX cI cJ uX uL) (wModel aX cI cJ wX uL)) (Nat.le_of_ble_eq_true rfl) dL_law_565 rfl ?_
  refine mk_icmp_eq C 1116 dL_law_568 (by decide) (fun _ => ?_) (fun h9 => absurd rfl h9)
  exact mk_widen (by omega) (by omega) (K uQ uR uT uD uY uP uS uC uO uA uM wX uL hI2)
set_option maxHeartbeats 40000000 in
set_option maxRecDepth 100000 in
theorem law_case15 {p : Program} {l : Launch} {e : Env} {s : State} {m : MethodId} {below : List Frame} {meth : Method} {c : Code} {D : va_G} {X Y : Nat → Nat} {cI cJ : ClassId} {b L : Nat} {xs : Nat → Int32} {aZ aR aT aD aY aP aS aC aO aA aM aX : Nat → Nat} (hL : L ≤ 3072) (C : mk_Cx p s m #[Value.ref b] c code 4 RL D [(cI, .int), (cJ, .long)] X Y (fun q => s.heap.size ≤ q)) (hX : va_X b L xs s s.heap) (hbl : b < s.heap.size) (hr : meth.sig.returnType = ret) (hlk : meth.locks = false) {k : Nat} (hk : 6 * k + 6 ≤ L) {uQ : Nat} {uR uT uD uY uP uS uC uO uA : Nat → Nat → Int32} {uM : Nat → Nat → Int64} {uX : Nat → Nat → Int32} {uL : Nat → Nat → Int64} (hI : mk_Inv uR uT uD uY uP uS uC uO uA uX) (K : ∀ (uQ : Nat) (uR uT uD uY uP uS uC uO uA : Nat → Nat → Int32) (uM : Nat → Nat → Int64) (uX : Nat → Nat → Int32) (uL : Nat → Nat → Int64), mk_Inv uR uT uD uY uP uS uC uO uA uX → mk_Go p l e room_1 s m #[Value.ref b] below meth c D (fun q => s.heap.size ≤ q) 4 (78 + (k + 1)) (15752 + 5 * (k + 1)) (lw_Z below #[Value.ref b] s) 1116 ((wChan aZ aR aT aD aY aP aC aO aA aM ++ (wReader aR aT aD uR ++ (wTape aT cI uT ++ (wPlan aD cI uD ++ (wPlay aY aP aS (mk_crs aC aO uQ) cI uY ++ (wPlan aP cI uP ++ (wStack aS cI uS ++ (wCourse aC cI uC ++ (wCourse aO cI uO ++ (wActs aA cI uA ++ (wMeans aM cJ uM))))))))))) ++ (wModel aX cI cJ uX uL)) [(0, .ref b), (1, .ref (aZ 0)), (2, .ref (aX 0)), (3, .int (nI (6 * k)))] []) : mk_Go p l e room_1 s m #[Value.ref b] below meth c D (fun q => s.heap.size ≤ q) 4 (78 + k) (15752 + 5 * k) (lw_Z below #[Value.ref b] s) 573 ((wChan aZ aR aT aD aY aP aC aO aA aM ++ (wReader aR aT aD uR ++ (wTape aT cI uT ++ (wPlan aD cI uD ++ (wPlay aY aP aS (mk_crs aC aO uQ) cI uY ++ (wPlan aP cI uP ++ (wStack aS cI uS ++ (wCourse aC cI uC ++ (wCourse aO cI uO ++ (wActs aA cI uA ++ (wMeans aM cJ uM))))))))))) ++ (wModel aX cI cJ uX uL)) [(0, .ref b), (1, .ref (aZ 0)), (2, .ref (aX 0)), (3, .int (nI (6 * k)))] [] := by
  obtain ⟨r, wX, hz, hx, hI2⟩ := s_collided  hI 
  have hA : ¬ (fun q => s.heap.size ≤ q) b := Nat.not_le.mpr hbl
  refine mk_aload_n C 1 dL_law_573 rfl ?_
  refine mk_callLi C (c_Z_collided l D cI cJ X Y aZ aR aT aD aY aP aS aC aO aA aM uQ uR uT uD uY uP uS uC uO uA uM r hz) mw_718 mw_719 mw_720 mw_1 mw_721 mkn_X8_collided rfl ⟨Nat.le_of_ble_eq_true rfl, Nat.le_of_ble_eq_true rfl⟩ ⟨rfl, rfl⟩ ⟨by show 78 + k + 0 ≤ 600000; omega, by show 15752 + 5 * k + 0 ≤ 7302250; omega⟩ 0 rfl rfl rfl (mk_Fr.first (wChan aZ aR aT aD aY aP aC aO aA aM ++ (wReader aR aT aD uR ++ (wTape aT cI uT ++ (wPlan aD cI uD ++ (wPlay aY aP aS (mk_crs aC aO uQ) cI uY ++ (wPlan aP cI uP ++ (wStack aS cI uS ++ (wCourse aC cI uC ++ (wCourse aO cI uO ++ (wActs aA cI uA ++ (wMeans aM cJ uM))))))))))) (wModel aX cI cJ uX uL) (wChan aZ aR aT aD aY aP aC aO aA aM ++ (wReader aR aT aD uR ++ (wTape aT cI uT ++ (wPlan aD cI uD ++ (wPlay aY aP aS (mk_crs aC aO uQ) cI uY ++ (wPlan aP cI uP ++ (wStack aS cI uS ++ (wCourse aC cI uC ++ (wCourse aO cI uO ++ (wActs aA cI uA ++ (wMeans aM cJ uM)))))))))))) (Nat.le_of_ble_eq_true rfl) dL_law_574 rfl ?_
  refine mk_aload_n C 2 dL_law_577 rfl ?_
  refine mk_callLi C (c_X_collided l D cI cJ X Y aX uX uL r wX hx) mw_1253 mw_1254 mw_1255 mw_10 mw_1256 mkn_X9_collided rfl ⟨Nat.le_of_ble_eq_true rfl, Nat.le_of_ble_eq_true rfl⟩ ⟨rfl, rfl⟩ ⟨by show 78 + k + 0 + 0 ≤ 600000; omega, by show 15752 + 5 * k + 0 + 0 ≤ 7302250; omega⟩ 55 rfl rfl rfl (mk_Fr.last (wChan aZ aR aT aD aY aP aC aO aA aM ++ (wReader aR aT aD uR ++ (wTape aT cI uT ++ (wPlan aD cI uD ++ (wPlay aY aP aS (mk_crs aC aO uQ) cI uY ++ (wPlan aP cI uP ++ (wStack aS cI uS ++ (wCourse aC cI uC ++ (wCourse aO cI uO ++ (wActs aA cI uA ++ (wMeans aM cJ uM))))))))))) (wModel aX cI cJ uX uL) (wModel aX cI cJ wX uL)) (Nat.le_of_ble_eq_true rfl) dL_law_578 rfl ?_
  refine mk_icmp_eq C 1116 dL_law_581 (by decide) (fun _ => ?_) (fun h9 => absurd rfl h9)
  exact mk_widen (by omega) (by omega) (K uQ uR uT uD uY uP uS uC uO uA uM wX uL hI2)
set_option maxHeartbeats 40000000 in
set_option maxRecDepth 100000 in
theorem law_case16 {p : Program} {l : Launch} {e : Env} {s : State} {m : MethodId} {below : List Frame} {meth : Method} {c : Code} {D : va_G} {X Y : Nat → Nat} {cI cJ : ClassId} {b L : Nat} {xs : Nat → Int32} {aZ aR aT aD aY aP aS aC aO aA aM aX : Nat → Nat} (hL : L ≤ 3072) (C : mk_Cx p s m #[Value.ref b] c code 4 RL D [(cI, .int), (cJ, .long)] X Y (fun q => s.heap.size ≤ q)) (hX : va_X b L xs s s.heap) (hbl : b < s.heap.size) (hr : meth.sig.returnType = ret) (hlk : meth.locks = false) {k : Nat} (hk : 6 * k + 6 ≤ L) {uQ : Nat} {uR uT uD uY uP uS uC uO uA : Nat → Nat → Int32} {uM : Nat → Nat → Int64} {uX : Nat → Nat → Int32} {uL : Nat → Nat → Int64} (hI : mk_Inv uR uT uD uY uP uS uC uO uA uX) (K : ∀ (uQ : Nat) (uR uT uD uY uP uS uC uO uA : Nat → Nat → Int32) (uM : Nat → Nat → Int64) (uX : Nat → Nat → Int32) (uL : Nat → Nat → Int64), mk_Inv uR uT uD uY uP uS uC uO uA uX → mk_Go p l e room_1 s m #[Value.ref b] below meth c D (fun q => s.heap.size ≤ q) 4 (78 + (k + 1)) (15752 + 5 * (k + 1)) (lw_Z below #[Value.ref b] s) 1116 ((wChan aZ aR aT aD aY aP aC aO aA aM ++ (wReader aR aT aD uR ++ (wTape aT cI uT ++ (wPlan aD cI uD ++ (wPlay aY aP aS (mk_crs aC aO uQ) cI uY ++ (wPlan aP cI uP ++ (wStack aS cI uS ++ (wCourse aC cI uC ++ (wCourse aO cI uO ++ (wActs aA cI uA ++ (wMeans aM cJ uM))))))))))) ++ (wModel aX cI cJ uX uL)) [(0, .ref b), (1, .ref (aZ 0)), (2, .ref (aX 0)), (3, .int (nI (6 * k)))] []) : mk_Go p l e room_1 s m #[Value.ref b] below meth c D (fun q => s.heap.size ≤ q) 4 (78 + k) (15752 + 5 * k) (lw_Z below #[Value.ref b] s) 586 ((wChan aZ aR aT aD aY aP aC aO aA aM ++ (wReader aR aT aD uR ++ (wTape aT cI uT ++ (wPlan aD cI uD ++ (wPlay aY aP aS (mk_crs aC aO uQ) cI uY ++ (wPlan aP cI uP ++ (wStack aS cI uS ++ (wCourse aC cI uC ++ (wCourse aO cI uO ++ (wActs aA cI uA ++ (wMeans aM cJ uM))))))))))) ++ (wModel aX cI cJ uX uL)) [(0, .ref b), (1, .ref (aZ 0)), (2, .ref (aX 0)), (3, .int (nI (6 * k)))] [] := by
  obtain ⟨r, wX, hz, hx, hI2⟩ := s_skips  hI 
  have hA : ¬ (fun q => s.heap.size ≤ q) b := Nat.not_le.mpr hbl
  refine mk_aload_n C 1 dL_law_586 rfl ?_
  refine mk_callLi C (c_Z_skips l D cI cJ X Y aZ aR aT aD aY aP aS aC aO aA aM uQ uR uT uD uY uP uS uC uO uA uM r hz) mw_727 mw_728 mw_729 mw_1 mw_730 mkn_X8_skips rfl ⟨Nat.le_of_ble_eq_true rfl, Nat.le_of_ble_eq_true rfl⟩ ⟨rfl, rfl⟩ ⟨by show 78 + k + 0 ≤ 600000; omega, by show 15752 + 5 * k + 0 ≤ 7302250; omega⟩ 0 rfl rfl rfl (mk_Fr.first (wChan aZ aR aT aD aY aP aC aO aA aM ++ (wReader aR aT aD uR ++ (wTape aT cI uT ++ (wPlan aD cI uD ++ (wPlay aY aP aS (mk_crs aC aO uQ) cI uY ++ (wPlan aP cI uP ++ (wStack aS cI uS ++ (wCourse aC cI uC ++ (wCourse aO cI uO ++ (wActs aA cI uA ++ (wMeans aM cJ uM))))))))))) (wModel aX cI cJ uX uL) (wChan aZ aR aT aD aY aP aC aO aA aM ++ (wReader aR aT aD uR ++ (wTape aT cI uT ++ (wPlan aD cI uD ++ (wPlay aY aP aS (mk_crs aC aO uQ) cI uY ++ (wPlan aP cI uP ++ (wStack aS cI uS ++ (wCourse aC cI uC ++ (wCourse aO cI uO ++ (wActs aA cI uA ++ (wMeans aM cJ uM)))))))))))) (Nat.le_of_ble_eq_true rfl) dL_law_587 rfl ?_
  refine mk_aload_n C 2 dL_law_590 rfl ?_
  refine mk_callLi C (c_X_skips l D cI cJ X Y aX uX uL r wX hx) mw_1261 mw_1262 mw_1263 mw_10 mw_1264 mkn_X9_skips rfl ⟨Nat.le_of_ble_eq_true rfl, Nat.le_of_ble_eq_true rfl⟩ ⟨rfl, rfl⟩ ⟨by show 78 + k + 0 + 0 ≤ 600000; omega, by show 15752 + 5 * k + 0 + 0 ≤ 7302250; omega⟩ 55 rfl rfl rfl (mk_Fr.last (wChan aZ aR aT aD aY aP aC aO aA aM ++ (wReader aR aT aD uR ++ (wTape aT cI uT ++ (wPlan aD cI uD ++ (wPlay aY aP aS (mk_crs aC aO uQ) cI uY ++ (wPlan aP cI uP ++ (wStack aS cI uS ++ (wCourse aC cI uC ++ (wCourse aO cI uO ++ (wActs aA cI uA ++ (wMeans aM cJ uM))))))))))) (wModel aX cI cJ uX uL) (wModel aX cI cJ wX uL)) (Nat.le_of_ble_eq_true rfl) dL_law_591 rfl ?_
  refine mk_icmp_eq C 1116 dL_law_594 (by decide) (fun _ => ?_) (fun h9 => absurd rfl h9)
  exact mk_widen (by omega) (by omega) (K uQ uR uT uD uY uP uS uC uO uA uM wX uL hI2)
set_option maxHeartbeats 40000000 in
set_option maxRecDepth 100000 in
theorem law_case17 {p : Program} {l : Launch} {e : Env} {s : State} {m : MethodId} {below : List Frame} {meth : Method} {c : Code} {D : va_G} {X Y : Nat → Nat} {cI cJ : ClassId} {b L : Nat} {xs : Nat → Int32} {aZ aR aT aD aY aP aS aC aO aA aM aX : Nat → Nat} (hL : L ≤ 3072) (C : mk_Cx p s m #[Value.ref b] c code 4 RL D [(cI, .int), (cJ, .long)] X Y (fun q => s.heap.size ≤ q)) (hX : va_X b L xs s s.heap) (hbl : b < s.heap.size) (hr : meth.sig.returnType = ret) (hlk : meth.locks = false) {k : Nat} (hk : 6 * k + 6 ≤ L) {uQ : Nat} {uR uT uD uY uP uS uC uO uA : Nat → Nat → Int32} {uM : Nat → Nat → Int64} {uX : Nat → Nat → Int32} {uL : Nat → Nat → Int64} (hI : mk_Inv uR uT uD uY uP uS uC uO uA uX) (K : ∀ (uQ : Nat) (uR uT uD uY uP uS uC uO uA : Nat → Nat → Int32) (uM : Nat → Nat → Int64) (uX : Nat → Nat → Int32) (uL : Nat → Nat → Int64), mk_Inv uR uT uD uY uP uS uC uO uA uX → mk_Go p l e room_1 s m #[Value.ref b] below meth c D (fun q => s.heap.size ≤ q) 4 (78 + (k + 1)) (15752 + 5 * (k + 1)) (lw_Z below #[Value.ref b] s) 1116 ((wChan aZ aR aT aD aY aP aC aO aA aM ++ (wReader aR aT aD uR ++ (wTape aT cI uT ++ (wPlan aD cI uD ++ (wPlay aY aP aS (mk_crs aC aO uQ) cI uY ++ (wPlan aP cI uP ++ (wStack aS cI uS ++ (wCourse aC cI uC ++ (wCourse aO cI uO ++ (wActs aA cI uA ++ (wMeans aM cJ uM))))))))))) ++ (wModel aX cI cJ uX uL)) [(0, .ref b), (1, .ref (aZ 0)), (2, .ref (aX 0)), (3, .int (nI (6 * k)))] []) : mk_Go p l e room_1 s m #[Value.ref b] below meth c D (fun q => s.heap.size ≤ q) 4 (78 + k) (15752 + 5 * k) (lw_Z below #[Value.ref b] s) 599 ((wChan aZ aR aT aD aY aP aC aO aA aM ++ (wReader aR aT aD uR ++ (wTape aT cI uT ++ (wPlan aD cI uD ++ (wPlay aY aP aS (mk_crs aC aO uQ) cI uY ++ (wPlan aP cI uP ++ (wStack aS cI uS ++ (wCourse aC cI uC ++ (wCourse aO cI uO ++ (wActs aA cI uA ++ (wMeans aM cJ uM))))))))))) ++ (wModel aX cI cJ uX uL)) [(0, .ref b), (1, .ref (aZ 0)), (2, .ref (aX 0)), (3, .int (nI (6 * k)))] [] := by
  obtain ⟨r, wX, hz, hx, hI2⟩ := s_deepest  hI 
  have hA : ¬ (fun q => s.heap.size ≤ q) b := Nat.not_le.mpr hbl
  refine mk_aload_n C 1 dL_law_599 rfl ?_
  refine mk_callLi C (c_Z_deepest l D cI cJ X Y aZ aR aT aD aY aP aS aC aO aA aM uQ uR uT uD uY uP uS uC uO uA uM r hz) mw_735 mw_736 mw_737 mw_1 mw_738 mkn_X8_deepest rfl ⟨Nat.le_of_ble_eq_true rfl, Nat.le_of_ble_eq_true rfl⟩ ⟨rfl, rfl⟩ ⟨by show 78 + k + 0 ≤ 600000; omega, by show 15752 + 5 * k + 0 ≤ 7302250; omega⟩ 0 rfl rfl rfl (mk_Fr.first (wChan aZ aR aT aD aY aP aC aO aA aM ++ (wReader aR aT aD uR ++ (wTape aT cI uT ++ (wPlan aD cI uD ++ (wPlay aY aP aS (mk_crs aC aO uQ) cI uY ++ (wPlan aP cI uP ++ (wStack aS cI uS ++ (wCourse aC cI uC ++ (wCourse aO cI uO ++ (wActs aA cI uA ++ (wMeans aM cJ uM))))))))))) (wModel aX cI cJ uX uL) (wChan aZ aR aT aD aY aP aC aO aA aM ++ (wReader aR aT aD uR ++ (wTape aT cI uT ++ (wPlan aD cI uD ++ (wPlay aY aP aS (mk_crs aC aO uQ) cI uY ++ (wPlan aP cI uP ++ (wStack aS cI uS ++ (wCourse aC cI uC ++ (wCourse aO cI uO ++ (wActs aA cI uA ++ (wMeans aM cJ uM)))))))))))) (Nat.le_of_ble_eq_true rfl) dL_law_600 rfl ?_
  refine mk_aload_n C 2 dL_law_603 rfl ?_
  refine mk_callLi C (c_X_deepest l D cI cJ X Y aX uX uL r wX hx) mw_1269 mw_1270 mw_1271 mw_10 mw_1272 mkn_X9_deepest rfl ⟨Nat.le_of_ble_eq_true rfl, Nat.le_of_ble_eq_true rfl⟩ ⟨rfl, rfl⟩ ⟨by show 78 + k + 0 + 0 ≤ 600000; omega, by show 15752 + 5 * k + 0 + 0 ≤ 7302250; omega⟩ 55 rfl rfl rfl (mk_Fr.last (wChan aZ aR aT aD aY aP aC aO aA aM ++ (wReader aR aT aD uR ++ (wTape aT cI uT ++ (wPlan aD cI uD ++ (wPlay aY aP aS (mk_crs aC aO uQ) cI uY ++ (wPlan aP cI uP ++ (wStack aS cI uS ++ (wCourse aC cI uC ++ (wCourse aO cI uO ++ (wActs aA cI uA ++ (wMeans aM cJ uM))))))))))) (wModel aX cI cJ uX uL) (wModel aX cI cJ wX uL)) (Nat.le_of_ble_eq_true rfl) dL_law_604 rfl ?_
  refine mk_icmp_eq C 1116 dL_law_607 (by decide) (fun _ => ?_) (fun h9 => absurd rfl h9)
  exact mk_widen (by omega) (by omega) (K uQ uR uT uD uY uP uS uC uO uA uM wX uL hI2)
set_option maxHeartbeats 40000000 in
set_option maxRecDepth 100000 in
theorem law_case18 {p : Program} {l : Launch} {e : Env} {s : State} {m : MethodId} {below : List Frame} {meth : Method} {c : Code} {D : va_G} {X Y : Nat → Nat} {cI cJ : ClassId} {b L : Nat} {xs : Nat → Int32} {aZ aR aT aD aY aP aS aC aO aA aM aX : Nat → Nat} (hL : L ≤ 3072) (C : mk_Cx p s m #[Value.ref b] c code 4 RL D [(cI, .int), (cJ, .long)] X Y (fun q => s.heap.size ≤ q)) (hX : va_X b L xs s s.heap) (hbl : b < s.heap.size) (hr : meth.sig.returnType = ret) (hlk : meth.locks = false) {k : Nat} (hk : 6 * k + 6 ≤ L) {uQ : Nat} {uR uT uD uY uP uS uC uO uA : Nat → Nat → Int32} {uM : Nat → Nat → Int64} {uX : Nat → Nat → Int32} {uL : Nat → Nat → Int64} (hI : mk_Inv uR uT uD uY uP uS uC uO uA uX) (K : ∀ (uQ : Nat) (uR uT uD uY uP uS uC uO uA : Nat → Nat → Int32) (uM : Nat → Nat → Int64) (uX : Nat → Nat → Int32) (uL : Nat → Nat → Int64), mk_Inv uR uT uD uY uP uS uC uO uA uX → mk_Go p l e room_1 s m #[Value.ref b] below meth c D (fun q => s.heap.size ≤ q) 4 (78 + (k + 1)) (15752 + 5 * (k + 1)) (lw_Z below #[Value.ref b] s) 1116 ((wChan aZ aR aT aD aY aP aC aO aA aM ++ (wReader aR aT aD uR ++ (wTape aT cI uT ++ (wPlan aD cI uD ++ (wPlay aY aP aS (mk_crs aC aO uQ) cI uY ++ (wPlan aP cI uP ++ (wStack aS cI uS ++ (wCourse aC cI uC ++ (wCourse aO cI uO ++ (wActs aA cI uA ++ (wMeans aM cJ uM))))))))))) ++ (wModel aX cI cJ uX uL)) [(0, .ref b), (1, .ref (aZ 0)), (2, .ref (aX 0)), (3, .int (nI (6 * k)))] []) : mk_Go p l e room_1 s m #[Value.ref b] below meth c D (fun q => s.heap.size ≤ q) 4 (78 + k) (15752 + 5 * k) (lw_Z below #[Value.ref b] s) 612 ((wChan aZ aR aT aD aY aP aC aO aA aM ++ (wReader aR aT aD uR ++ (wTape aT cI uT ++ (wPlan aD cI uD ++ (wPlay aY aP aS (mk_crs aC aO uQ) cI uY ++ (wPlan aP cI uP ++ (wStack aS cI uS ++ (wCourse aC cI uC ++ (wCourse aO cI uO ++ (wActs aA cI uA ++ (wMeans aM cJ uM))))))))))) ++ (wModel aX cI cJ uX uL)) [(0, .ref b), (1, .ref (aZ 0)), (2, .ref (aX 0)), (3, .int (nI (6 * k)))] [] := by
  obtain ⟨r, wX, hz, hx, hI2⟩ := s_epochs  hI 
  have hA : ¬ (fun q => s.heap.size ≤ q) b := Nat.not_le.mpr hbl
  refine mk_aload_n C 1 dL_law_612 rfl ?_
  refine mk_callLi C (c_Z_epochs l D cI cJ X Y aZ aR aT aD aY aP aS aC aO aA aM uQ uR uT uD uY uP uS uC uO uA uM r hz) mw_744 mw_745 mw_746 mw_1 mw_747 mkn_X8_epochs rfl ⟨Nat.le_of_ble_eq_true rfl, Nat.le_of_ble_eq_true rfl⟩ ⟨rfl, rfl⟩ ⟨by show 78 + k + 0 ≤ 600000; omega, by show 15752 + 5 * k + 0 ≤ 7302250; omega⟩ 0 rfl rfl rfl (mk_Fr.first (wChan aZ aR aT aD aY aP aC aO aA aM ++ (wReader aR aT aD uR ++ (wTape aT cI uT ++ (wPlan aD cI uD ++ (wPlay aY aP aS (mk_crs aC aO uQ) cI uY ++ (wPlan aP cI uP ++ (wStack aS cI uS ++ (wCourse aC cI uC ++ (wCourse aO cI uO ++ (wActs aA cI uA ++ (wMeans aM cJ uM))))))))))) (wModel aX cI cJ uX uL) (wChan aZ aR aT aD aY aP aC aO aA aM ++ (wReader aR aT aD uR ++ (wTape aT cI uT ++ (wPlan aD cI uD ++ (wPlay aY aP aS (mk_crs aC aO uQ) cI uY ++ (wPlan aP cI uP ++ (wStack aS cI uS ++ (wCourse aC cI uC ++ (wCourse aO cI uO ++ (wActs aA cI uA ++ (wMeans aM cJ uM)))))))))))) (Nat.le_of_ble_eq_true rfl) dL_law_613 rfl ?_
  refine mk_aload_n C 2 dL_law_616 rfl ?_
  refine mk_callLi C (c_X_epochs l D cI cJ X Y aX uX uL r wX hx) mw_1273 mw_1274 mw_1275 mw_10 mw_1276 mkn_X9_epochs rfl ⟨Nat.le_of_ble_eq_true rfl, Nat.le_of_ble_eq_true rfl⟩ ⟨rfl, rfl⟩ ⟨by show 78 + k + 0 + 0 ≤ 600000; omega, by show 15752 + 5 * k + 0 + 0 ≤ 7302250; omega⟩ 55 rfl rfl rfl (mk_Fr.last (wChan aZ aR aT aD aY aP aC aO aA aM ++ (wReader aR aT aD uR ++ (wTape aT cI uT ++ (wPlan aD cI uD ++ (wPlay aY aP aS (mk_crs aC aO uQ) cI uY ++ (wPlan aP cI uP ++ (wStack aS cI uS ++ (wCourse aC cI uC ++ (wCourse aO cI uO ++ (wActs aA cI uA ++ (wMeans aM cJ uM))))))))))) (wModel aX cI cJ uX uL) (wModel aX cI cJ wX uL)) (Nat.le_of_ble_eq_true rfl) dL_law_617 rfl ?_
  refine mk_icmp_eq C 1116 dL_law_620 (by decide) (fun _ => ?_) (fun h9 => absurd rfl h9)
  exact mk_widen (by omega) (by omega) (K uQ uR uT uD uY uP uS uC uO uA uM wX uL hI2)
set_option maxHeartbeats 40000000 in
set_option maxRecDepth 100000 in
theorem law_case19 {p : Program} {l : Launch} {e : Env} {s : State} {m : MethodId} {below : List Frame} {meth : Method} {c : Code} {D : va_G} {X Y : Nat → Nat} {cI cJ : ClassId} {b L : Nat} {xs : Nat → Int32} {aZ aR aT aD aY aP aS aC aO aA aM aX : Nat → Nat} (hL : L ≤ 3072) (C : mk_Cx p s m #[Value.ref b] c code 4 RL D [(cI, .int), (cJ, .long)] X Y (fun q => s.heap.size ≤ q)) (hX : va_X b L xs s s.heap) (hbl : b < s.heap.size) (hr : meth.sig.returnType = ret) (hlk : meth.locks = false) {k : Nat} (hk : 6 * k + 6 ≤ L) {uQ : Nat} {uR uT uD uY uP uS uC uO uA : Nat → Nat → Int32} {uM : Nat → Nat → Int64} {uX : Nat → Nat → Int32} {uL : Nat → Nat → Int64} (hI : mk_Inv uR uT uD uY uP uS uC uO uA uX) (K : ∀ (uQ : Nat) (uR uT uD uY uP uS uC uO uA : Nat → Nat → Int32) (uM : Nat → Nat → Int64) (uX : Nat → Nat → Int32) (uL : Nat → Nat → Int64), mk_Inv uR uT uD uY uP uS uC uO uA uX → mk_Go p l e room_1 s m #[Value.ref b] below meth c D (fun q => s.heap.size ≤ q) 4 (78 + (k + 1)) (15752 + 5 * (k + 1)) (lw_Z below #[Value.ref b] s) 1116 ((wChan aZ aR aT aD aY aP aC aO aA aM ++ (wReader aR aT aD uR ++ (wTape aT cI uT ++ (wPlan aD cI uD ++ (wPlay aY aP aS (mk_crs aC aO uQ) cI uY ++ (wPlan aP cI uP ++ (wStack aS cI uS ++ (wCourse aC cI uC ++ (wCourse aO cI uO ++ (wActs aA cI uA ++ (wMeans aM cJ uM))))))))))) ++ (wModel aX cI cJ uX uL)) [(0, .ref b), (1, .ref (aZ 0)), (2, .ref (aX 0)), (3, .int (nI (6 * k)))] []) : mk_Go p l e room_1 s m #[Value.ref b] below meth c D (fun q => s.heap.size ≤ q) 4 (78 + k) (15752 + 5 * k) (lw_Z below #[Value.ref b] s) 625 ((wChan aZ aR aT aD aY aP aC aO aA aM ++ (wReader aR aT aD uR ++ (wTape aT cI uT ++ (wPlan aD cI uD ++ (wPlay aY aP aS (mk_crs aC aO uQ) cI uY ++ (wPlan aP cI uP ++ (wStack aS cI uS ++ (wCourse aC cI uC ++ (wCourse aO cI uO ++ (wActs aA cI uA ++ (wMeans aM cJ uM))))))))))) ++ (wModel aX cI cJ uX uL)) [(0, .ref b), (1, .ref (aZ 0)), (2, .ref (aX 0)), (3, .int (nI (6 * k)))] [] := by
  obtain ⟨r, wX, hz, hx, hI2⟩ := s_epoch  hI (xs (nI (6 * k) + 1).toNatClampNeg) (xs (nI (6 * k) + 2).toNatClampNeg)
  have hA : ¬ (fun q => s.heap.size ≤ q) b := Nat.not_le.mpr hbl
  refine mk_aload_n C 1 dL_law_625 rfl ?_
  refine mk_aload_n C 0 dL_law_626 rfl ?_
  refine mk_iload_n C 3 dL_law_627 rfl ?_
  refine mk_iconst C (v := 1) dL_law_628 (by decide) ?_
  refine mk_iadd C dL_law_629 ?_
  refine mk_sld C hX hbl hA (mk_ix hL hk (j := 1) (by decide) rfl) dL_law_630 ?_
  refine mk_aload_n C 0 dL_law_631 rfl ?_
  refine mk_iload_n C 3 dL_law_632 rfl ?_
  refine mk_iconst C (v := 2) dL_law_633 (by decide) ?_
  refine mk_iadd C dL_law_634 ?_
  refine mk_sld C hX hbl hA (mk_ix hL hk (j := 2) (by decide) rfl) dL_law_635 ?_
  refine mk_callLi C (c_Z_epoch l D cI cJ X Y aZ aR aT aD aY aP aS aC aO aA aM uQ uR uT uD uY uP uS uC uO uA uM (xs (nI (6 * k) + 1).toNatClampNeg) (xs (nI (6 * k) + 2).toNatClampNeg) r hz) mw_748 mw_749 mw_750 mw_1 mw_751 mkn_X8_epoch rfl ⟨Nat.le_of_ble_eq_true rfl, Nat.le_of_ble_eq_true rfl⟩ ⟨rfl, rfl⟩ ⟨by show 78 + k + 0 ≤ 600000; omega, by show 15752 + 5 * k + 0 ≤ 7302250; omega⟩ 0 rfl rfl rfl (mk_Fr.first (wChan aZ aR aT aD aY aP aC aO aA aM ++ (wReader aR aT aD uR ++ (wTape aT cI uT ++ (wPlan aD cI uD ++ (wPlay aY aP aS (mk_crs aC aO uQ) cI uY ++ (wPlan aP cI uP ++ (wStack aS cI uS ++ (wCourse aC cI uC ++ (wCourse aO cI uO ++ (wActs aA cI uA ++ (wMeans aM cJ uM))))))))))) (wModel aX cI cJ uX uL) (wChan aZ aR aT aD aY aP aC aO aA aM ++ (wReader aR aT aD uR ++ (wTape aT cI uT ++ (wPlan aD cI uD ++ (wPlay aY aP aS (mk_crs aC aO uQ) cI uY ++ (wPlan aP cI uP ++ (wStack aS cI uS ++ (wCourse aC cI uC ++ (wCourse aO cI uO ++ (wActs aA cI uA ++ (wMeans aM cJ uM)))))))))))) (Nat.le_of_ble_eq_true rfl) dL_law_636 rfl ?_
  refine mk_aload_n C 2 dL_law_639 rfl ?_
  refine mk_aload_n C 0 dL_law_640 rfl ?_
  refine mk_iload_n C 3 dL_law_641 rfl ?_
  refine mk_iconst C (v := 1) dL_law_642 (by decide) ?_
  refine mk_iadd C dL_law_643 ?_
  refine mk_sld C hX hbl hA (mk_ix hL hk (j := 1) (by decide) rfl) dL_law_644 ?_
  refine mk_aload_n C 0 dL_law_645 rfl ?_
  refine mk_iload_n C 3 dL_law_646 rfl ?_
  refine mk_iconst C (v := 2) dL_law_647 (by decide) ?_
  refine mk_iadd C dL_law_648 ?_
  refine mk_sld C hX hbl hA (mk_ix hL hk (j := 2) (by decide) rfl) dL_law_649 ?_
  refine mk_callLi C (c_X_epoch l D cI cJ X Y aX uX uL (xs (nI (6 * k) + 1).toNatClampNeg) (xs (nI (6 * k) + 2).toNatClampNeg) r wX hx) mw_1277 mw_1278 mw_1279 mw_10 mw_1280 mkn_X9_epoch rfl ⟨Nat.le_of_ble_eq_true rfl, Nat.le_of_ble_eq_true rfl⟩ ⟨rfl, rfl⟩ ⟨by show 78 + k + 0 + 0 ≤ 600000; omega, by show 15752 + 5 * k + 0 + 0 ≤ 7302250; omega⟩ 55 rfl rfl rfl (mk_Fr.last (wChan aZ aR aT aD aY aP aC aO aA aM ++ (wReader aR aT aD uR ++ (wTape aT cI uT ++ (wPlan aD cI uD ++ (wPlay aY aP aS (mk_crs aC aO uQ) cI uY ++ (wPlan aP cI uP ++ (wStack aS cI uS ++ (wCourse aC cI uC ++ (wCourse aO cI uO ++ (wActs aA cI uA ++ (wMeans aM cJ uM))))))))))) (wModel aX cI cJ uX uL) (wModel aX cI cJ wX uL)) (Nat.le_of_ble_eq_true rfl) dL_law_650 rfl ?_
  refine mk_icmp_eq C 1116 dL_law_653 (by decide) (fun _ => ?_) (fun h9 => absurd rfl h9)
  exact mk_widen (by omega) (by omega) (K uQ uR uT uD uY uP uS uC uO uA uM wX uL hI2)
set_option maxHeartbeats 40000000 in
set_option maxRecDepth 100000 in
theorem law_case20 {p : Program} {l : Launch} {e : Env} {s : State} {m : MethodId} {below : List Frame} {meth : Method} {c : Code} {D : va_G} {X Y : Nat → Nat} {cI cJ : ClassId} {b L : Nat} {xs : Nat → Int32} {aZ aR aT aD aY aP aS aC aO aA aM aX : Nat → Nat} (hL : L ≤ 3072) (C : mk_Cx p s m #[Value.ref b] c code 4 RL D [(cI, .int), (cJ, .long)] X Y (fun q => s.heap.size ≤ q)) (hX : va_X b L xs s s.heap) (hbl : b < s.heap.size) (hr : meth.sig.returnType = ret) (hlk : meth.locks = false) {k : Nat} (hk : 6 * k + 6 ≤ L) {uQ : Nat} {uR uT uD uY uP uS uC uO uA : Nat → Nat → Int32} {uM : Nat → Nat → Int64} {uX : Nat → Nat → Int32} {uL : Nat → Nat → Int64} (hI : mk_Inv uR uT uD uY uP uS uC uO uA uX) (K : ∀ (uQ : Nat) (uR uT uD uY uP uS uC uO uA : Nat → Nat → Int32) (uM : Nat → Nat → Int64) (uX : Nat → Nat → Int32) (uL : Nat → Nat → Int64), mk_Inv uR uT uD uY uP uS uC uO uA uX → mk_Go p l e room_1 s m #[Value.ref b] below meth c D (fun q => s.heap.size ≤ q) 4 (78 + (k + 1)) (15752 + 5 * (k + 1)) (lw_Z below #[Value.ref b] s) 1116 ((wChan aZ aR aT aD aY aP aC aO aA aM ++ (wReader aR aT aD uR ++ (wTape aT cI uT ++ (wPlan aD cI uD ++ (wPlay aY aP aS (mk_crs aC aO uQ) cI uY ++ (wPlan aP cI uP ++ (wStack aS cI uS ++ (wCourse aC cI uC ++ (wCourse aO cI uO ++ (wActs aA cI uA ++ (wMeans aM cJ uM))))))))))) ++ (wModel aX cI cJ uX uL)) [(0, .ref b), (1, .ref (aZ 0)), (2, .ref (aX 0)), (3, .int (nI (6 * k)))] []) : mk_Go p l e room_1 s m #[Value.ref b] below meth c D (fun q => s.heap.size ≤ q) 4 (78 + k) (15752 + 5 * k) (lw_Z below #[Value.ref b] s) 658 ((wChan aZ aR aT aD aY aP aC aO aA aM ++ (wReader aR aT aD uR ++ (wTape aT cI uT ++ (wPlan aD cI uD ++ (wPlay aY aP aS (mk_crs aC aO uQ) cI uY ++ (wPlan aP cI uP ++ (wStack aS cI uS ++ (wCourse aC cI uC ++ (wCourse aO cI uO ++ (wActs aA cI uA ++ (wMeans aM cJ uM))))))))))) ++ (wModel aX cI cJ uX uL)) [(0, .ref b), (1, .ref (aZ 0)), (2, .ref (aX 0)), (3, .int (nI (6 * k)))] [] := by
  obtain ⟨r, wX, hz, hx, hI2⟩ := s_behind  hI (xs (nI (6 * k) + 1).toNatClampNeg)
  have hA : ¬ (fun q => s.heap.size ≤ q) b := Nat.not_le.mpr hbl
  refine mk_aload_n C 1 dL_law_658 rfl ?_
  refine mk_aload_n C 0 dL_law_659 rfl ?_
  refine mk_iload_n C 3 dL_law_660 rfl ?_
  refine mk_iconst C (v := 1) dL_law_661 (by decide) ?_
  refine mk_iadd C dL_law_662 ?_
  refine mk_sld C hX hbl hA (mk_ix hL hk (j := 1) (by decide) rfl) dL_law_663 ?_
  refine mk_callLi C (c_Z_behind l D cI cJ X Y aZ aR aT aD aY aP aS aC aO aA aM uQ uR uT uD uY uP uS uC uO uA uM (xs (nI (6 * k) + 1).toNatClampNeg) r hz) mw_752 mw_753 mw_754 mw_1 mw_755 mkn_X8_behind rfl ⟨Nat.le_of_ble_eq_true rfl, Nat.le_of_ble_eq_true rfl⟩ ⟨rfl, rfl⟩ ⟨by show 78 + k + 0 ≤ 600000; omega, by show 15752 + 5 * k + 0 ≤ 7302250; omega⟩ 0 rfl rfl rfl (mk_Fr.first (wChan aZ aR aT aD aY aP aC aO aA aM ++ (wReader aR aT aD uR ++ (wTape aT cI uT ++ (wPlan aD cI uD ++ (wPlay aY aP aS (mk_crs aC aO uQ) cI uY ++ (wPlan aP cI uP ++ (wStack aS cI uS ++ (wCourse aC cI uC ++ (wCourse aO cI uO ++ (wActs aA cI uA ++ (wMeans aM cJ uM))))))))))) (wModel aX cI cJ uX uL) (wChan aZ aR aT aD aY aP aC aO aA aM ++ (wReader aR aT aD uR ++ (wTape aT cI uT ++ (wPlan aD cI uD ++ (wPlay aY aP aS (mk_crs aC aO uQ) cI uY ++ (wPlan aP cI uP ++ (wStack aS cI uS ++ (wCourse aC cI uC ++ (wCourse aO cI uO ++ (wActs aA cI uA ++ (wMeans aM cJ uM)))))))))))) (Nat.le_of_ble_eq_true rfl) dL_law_664 rfl ?_
  refine mk_aload_n C 2 dL_law_667 rfl ?_
  refine mk_aload_n C 0 dL_law_668 rfl ?_
  refine mk_iload_n C 3 dL_law_669 rfl ?_
  refine mk_iconst C (v := 1) dL_law_670 (by decide) ?_
  refine mk_iadd C dL_law_671 ?_
  refine mk_sld C hX hbl hA (mk_ix hL hk (j := 1) (by decide) rfl) dL_law_672 ?_
  refine mk_callLi C (c_X_behind l D cI cJ X Y aX uX uL (xs (nI (6 * k) + 1).toNatClampNeg) r wX hx) mw_1281 mw_1282 mw_1283 mw_10 mw_1284 mkn_X9_behind rfl ⟨Nat.le_of_ble_eq_true rfl, Nat.le_of_ble_eq_true rfl⟩ ⟨rfl, rfl⟩ ⟨by show 78 + k + 0 + 0 ≤ 600000; omega, by show 15752 + 5 * k + 0 + 0 ≤ 7302250; omega⟩ 55 rfl rfl rfl (mk_Fr.last (wChan aZ aR aT aD aY aP aC aO aA aM ++ (wReader aR aT aD uR ++ (wTape aT cI uT ++ (wPlan aD cI uD ++ (wPlay aY aP aS (mk_crs aC aO uQ) cI uY ++ (wPlan aP cI uP ++ (wStack aS cI uS ++ (wCourse aC cI uC ++ (wCourse aO cI uO ++ (wActs aA cI uA ++ (wMeans aM cJ uM))))))))))) (wModel aX cI cJ uX uL) (wModel aX cI cJ wX uL)) (Nat.le_of_ble_eq_true rfl) dL_law_673 rfl ?_
  refine mk_icmp_eq C 1116 dL_law_676 (by decide) (fun _ => ?_) (fun h9 => absurd rfl h9)
  exact mk_widen (by omega) (by omega) (K uQ uR uT uD uY uP uS uC uO uA uM wX uL hI2)
set_option maxHeartbeats 40000000 in
set_option maxRecDepth 100000 in
theorem law_case21 {p : Program} {l : Launch} {e : Env} {s : State} {m : MethodId} {below : List Frame} {meth : Method} {c : Code} {D : va_G} {X Y : Nat → Nat} {cI cJ : ClassId} {b L : Nat} {xs : Nat → Int32} {aZ aR aT aD aY aP aS aC aO aA aM aX : Nat → Nat} (hL : L ≤ 3072) (C : mk_Cx p s m #[Value.ref b] c code 4 RL D [(cI, .int), (cJ, .long)] X Y (fun q => s.heap.size ≤ q)) (hX : va_X b L xs s s.heap) (hbl : b < s.heap.size) (hr : meth.sig.returnType = ret) (hlk : meth.locks = false) {k : Nat} (hk : 6 * k + 6 ≤ L) {uQ : Nat} {uR uT uD uY uP uS uC uO uA : Nat → Nat → Int32} {uM : Nat → Nat → Int64} {uX : Nat → Nat → Int32} {uL : Nat → Nat → Int64} (hI : mk_Inv uR uT uD uY uP uS uC uO uA uX) (K : ∀ (uQ : Nat) (uR uT uD uY uP uS uC uO uA : Nat → Nat → Int32) (uM : Nat → Nat → Int64) (uX : Nat → Nat → Int32) (uL : Nat → Nat → Int64), mk_Inv uR uT uD uY uP uS uC uO uA uX → mk_Go p l e room_1 s m #[Value.ref b] below meth c D (fun q => s.heap.size ≤ q) 4 (78 + (k + 1)) (15752 + 5 * (k + 1)) (lw_Z below #[Value.ref b] s) 1116 ((wChan aZ aR aT aD aY aP aC aO aA aM ++ (wReader aR aT aD uR ++ (wTape aT cI uT ++ (wPlan aD cI uD ++ (wPlay aY aP aS (mk_crs aC aO uQ) cI uY ++ (wPlan aP cI uP ++ (wStack aS cI uS ++ (wCourse aC cI uC ++ (wCourse aO cI uO ++ (wActs aA cI uA ++ (wMeans aM cJ uM))))))))))) ++ (wModel aX cI cJ uX uL)) [(0, .ref b), (1, .ref (aZ 0)), (2, .ref (aX 0)), (3, .int (nI (6 * k)))] []) : mk_Go p l e room_1 s m #[Value.ref b] below meth c D (fun q => s.heap.size ≤ q) 4 (78 + k) (15752 + 5 * k) (lw_Z below #[Value.ref b] s) 681 ((wChan aZ aR aT aD aY aP aC aO aA aM ++ (wReader aR aT aD uR ++ (wTape aT cI uT ++ (wPlan aD cI uD ++ (wPlay aY aP aS (mk_crs aC aO uQ) cI uY ++ (wPlan aP cI uP ++ (wStack aS cI uS ++ (wCourse aC cI uC ++ (wCourse aO cI uO ++ (wActs aA cI uA ++ (wMeans aM cJ uM))))))))))) ++ (wModel aX cI cJ uX uL)) [(0, .ref b), (1, .ref (aZ 0)), (2, .ref (aX 0)), (3, .int (nI (6 * k)))] [] := by
  obtain ⟨r, wQ, wY, wS, wO, wX, hz, hx, hI2⟩ := s_by uQ hI (xs (nI (6 * k) + 1).toNatClampNeg) (xs (nI (6 * k) + 2).toNatClampNeg)
  have hA : ¬ (fun q => s.heap.size ≤ q) b := Nat.not_le.mpr hbl
  refine mk_aload_n C 1 dL_law_681 rfl ?_
  refine mk_aload_n C 0 dL_law_682 rfl ?_
  refine mk_iload_n C 3 dL_law_683 rfl ?_
  refine mk_iconst C (v := 1) dL_law_684 (by decide) ?_
  refine mk_iadd C dL_law_685 ?_
  refine mk_sld C hX hbl hA (mk_ix hL hk (j := 1) (by decide) rfl) dL_law_686 ?_
  refine mk_aload_n C 0 dL_law_687 rfl ?_
  refine mk_iload_n C 3 dL_law_688 rfl ?_
  refine mk_iconst C (v := 2) dL_law_689 (by decide) ?_
  refine mk_iadd C dL_law_690 ?_
  refine mk_sld C hX hbl hA (mk_ix hL hk (j := 2) (by decide) rfl) dL_law_691 ?_
  refine mk_callLi C (c_Z_by l D cI cJ X Y aZ aR aT aD aY aP aS aC aO aA aM uQ uR uT uD uY uP uS uC uO uA uM (xs (nI (6 * k) + 1).toNatClampNeg) (xs (nI (6 * k) + 2).toNatClampNeg) r wQ wY wS wO hz) mw_756 mw_757 mw_758 mw_1 mw_759 mkn_X8_by rfl ⟨Nat.le_of_ble_eq_true rfl, Nat.le_of_ble_eq_true rfl⟩ ⟨rfl, rfl⟩ ⟨by show 78 + k + 0 ≤ 600000; omega, by show 15752 + 5 * k + 0 ≤ 7302250; omega⟩ 0 rfl rfl rfl (mk_Fr.first (wChan aZ aR aT aD aY aP aC aO aA aM ++ (wReader aR aT aD uR ++ (wTape aT cI uT ++ (wPlan aD cI uD ++ (wPlay aY aP aS (mk_crs aC aO uQ) cI uY ++ (wPlan aP cI uP ++ (wStack aS cI uS ++ (wCourse aC cI uC ++ (wCourse aO cI uO ++ (wActs aA cI uA ++ (wMeans aM cJ uM))))))))))) (wModel aX cI cJ uX uL) (wChan aZ aR aT aD aY aP aC aO aA aM ++ (wReader aR aT aD uR ++ (wTape aT cI uT ++ (wPlan aD cI uD ++ (wPlay aY aP aS (mk_crs aC aO wQ) cI wY ++ (wPlan aP cI uP ++ (wStack aS cI wS ++ (wCourse aC cI uC ++ (wCourse aO cI wO ++ (wActs aA cI uA ++ (wMeans aM cJ uM)))))))))))) (Nat.le_of_ble_eq_true rfl) dL_law_692 rfl ?_
  refine mk_aload_n C 2 dL_law_695 rfl ?_
  refine mk_aload_n C 0 dL_law_696 rfl ?_
  refine mk_iload_n C 3 dL_law_697 rfl ?_
  refine mk_iconst C (v := 1) dL_law_698 (by decide) ?_
  refine mk_iadd C dL_law_699 ?_
  refine mk_sld C hX hbl hA (mk_ix hL hk (j := 1) (by decide) rfl) dL_law_700 ?_
  refine mk_aload_n C 0 dL_law_701 rfl ?_
  refine mk_iload_n C 3 dL_law_702 rfl ?_
  refine mk_iconst C (v := 2) dL_law_703 (by decide) ?_
  refine mk_iadd C dL_law_704 ?_
  refine mk_sld C hX hbl hA (mk_ix hL hk (j := 2) (by decide) rfl) dL_law_705 ?_
  refine mk_callLi C (c_X_by l D cI cJ X Y aX uX uL (xs (nI (6 * k) + 1).toNatClampNeg) (xs (nI (6 * k) + 2).toNatClampNeg) r wX hx) mw_1285 mw_1286 mw_1287 mw_10 mw_1288 mkn_X9_by rfl ⟨Nat.le_of_ble_eq_true rfl, Nat.le_of_ble_eq_true rfl⟩ ⟨rfl, rfl⟩ ⟨by show 78 + k + 0 + 0 ≤ 600000; omega, by show 15752 + 5 * k + 0 + 0 ≤ 7302250; omega⟩ 55 rfl rfl rfl (mk_Fr.last (wChan aZ aR aT aD aY aP aC aO aA aM ++ (wReader aR aT aD uR ++ (wTape aT cI uT ++ (wPlan aD cI uD ++ (wPlay aY aP aS (mk_crs aC aO wQ) cI wY ++ (wPlan aP cI uP ++ (wStack aS cI wS ++ (wCourse aC cI uC ++ (wCourse aO cI wO ++ (wActs aA cI uA ++ (wMeans aM cJ uM))))))))))) (wModel aX cI cJ uX uL) (wModel aX cI cJ wX uL)) (Nat.le_of_ble_eq_true rfl) dL_law_706 rfl ?_
  refine mk_icmp_eq C 1116 dL_law_709 (by decide) (fun _ => ?_) (fun h9 => absurd rfl h9)
  exact mk_widen (by omega) (by omega) (K wQ uR uT uD wY uP wS uC wO uA uM wX uL hI2)
set_option maxHeartbeats 40000000 in
set_option maxRecDepth 100000 in
theorem law_case22 {p : Program} {l : Launch} {e : Env} {s : State} {m : MethodId} {below : List Frame} {meth : Method} {c : Code} {D : va_G} {X Y : Nat → Nat} {cI cJ : ClassId} {b L : Nat} {xs : Nat → Int32} {aZ aR aT aD aY aP aS aC aO aA aM aX : Nat → Nat} (hL : L ≤ 3072) (C : mk_Cx p s m #[Value.ref b] c code 4 RL D [(cI, .int), (cJ, .long)] X Y (fun q => s.heap.size ≤ q)) (hX : va_X b L xs s s.heap) (hbl : b < s.heap.size) (hr : meth.sig.returnType = ret) (hlk : meth.locks = false) {k : Nat} (hk : 6 * k + 6 ≤ L) {uQ : Nat} {uR uT uD uY uP uS uC uO uA : Nat → Nat → Int32} {uM : Nat → Nat → Int64} {uX : Nat → Nat → Int32} {uL : Nat → Nat → Int64} (hI : mk_Inv uR uT uD uY uP uS uC uO uA uX) (K : ∀ (uQ : Nat) (uR uT uD uY uP uS uC uO uA : Nat → Nat → Int32) (uM : Nat → Nat → Int64) (uX : Nat → Nat → Int32) (uL : Nat → Nat → Int64), mk_Inv uR uT uD uY uP uS uC uO uA uX → mk_Go p l e room_1 s m #[Value.ref b] below meth c D (fun q => s.heap.size ≤ q) 4 (78 + (k + 1)) (15752 + 5 * (k + 1)) (lw_Z below #[Value.ref b] s) 1116 ((wChan aZ aR aT aD aY aP aC aO aA aM ++ (wReader aR aT aD uR ++ (wTape aT cI uT ++ (wPlan aD cI uD ++ (wPlay aY aP aS (mk_crs aC aO uQ) cI uY ++ (wPlan aP cI uP ++ (wStack aS cI uS ++ (wCourse aC cI uC ++ (wCourse aO cI uO ++ (wActs aA cI uA ++ (wMeans aM cJ uM))))))))))) ++ (wModel aX cI cJ uX uL)) [(0, .ref b), (1, .ref (aZ 0)), (2, .ref (aX 0)), (3, .int (nI (6 * k)))] []) : mk_Go p l e room_1 s m #[Value.ref b] below meth c D (fun q => s.heap.size ≤ q) 4 (78 + k) (15752 + 5 * k) (lw_Z below #[Value.ref b] s) 714 ((wChan aZ aR aT aD aY aP aC aO aA aM ++ (wReader aR aT aD uR ++ (wTape aT cI uT ++ (wPlan aD cI uD ++ (wPlay aY aP aS (mk_crs aC aO uQ) cI uY ++ (wPlan aP cI uP ++ (wStack aS cI uS ++ (wCourse aC cI uC ++ (wCourse aO cI uO ++ (wActs aA cI uA ++ (wMeans aM cJ uM))))))))))) ++ (wModel aX cI cJ uX uL)) [(0, .ref b), (1, .ref (aZ 0)), (2, .ref (aX 0)), (3, .int (nI (6 * k)))] [] := by
  obtain ⟨r, wQ, wY, wS, wO, wX, hz, hx, hI2⟩ := s_without uQ hI (xs (nI (6 * k) + 1).toNatClampNeg)
  have hA : ¬ (fun q => s.heap.size ≤ q) b := Nat.not_le.mpr hbl
  refine mk_aload_n C 1 dL_law_714 rfl ?_
  refine mk_aload_n C 0 dL_law_715 rfl ?_
  refine mk_iload_n C 3 dL_law_716 rfl ?_
  refine mk_iconst C (v := 1) dL_law_717 (by decide) ?_
  refine mk_iadd C dL_law_718 ?_
  refine mk_sld C hX hbl hA (mk_ix hL hk (j := 1) (by decide) rfl) dL_law_719 ?_
  refine mk_callLi C (c_Z_without l D cI cJ X Y aZ aR aT aD aY aP aS aC aO aA aM uQ uR uT uD uY uP uS uC uO uA uM (xs (nI (6 * k) + 1).toNatClampNeg) r wQ wY wS wO hz) mw_763 mw_764 mw_765 mw_1 mw_766 mkn_X8_without rfl ⟨Nat.le_of_ble_eq_true rfl, Nat.le_of_ble_eq_true rfl⟩ ⟨rfl, rfl⟩ ⟨by show 78 + k + 0 ≤ 600000; omega, by show 15752 + 5 * k + 0 ≤ 7302250; omega⟩ 0 rfl rfl rfl (mk_Fr.first (wChan aZ aR aT aD aY aP aC aO aA aM ++ (wReader aR aT aD uR ++ (wTape aT cI uT ++ (wPlan aD cI uD ++ (wPlay aY aP aS (mk_crs aC aO uQ) cI uY ++ (wPlan aP cI uP ++ (wStack aS cI uS ++ (wCourse aC cI uC ++ (wCourse aO cI uO ++ (wActs aA cI uA ++ (wMeans aM cJ uM))))))))))) (wModel aX cI cJ uX uL) (wChan aZ aR aT aD aY aP aC aO aA aM ++ (wReader aR aT aD uR ++ (wTape aT cI uT ++ (wPlan aD cI uD ++ (wPlay aY aP aS (mk_crs aC aO wQ) cI wY ++ (wPlan aP cI uP ++ (wStack aS cI wS ++ (wCourse aC cI uC ++ (wCourse aO cI wO ++ (wActs aA cI uA ++ (wMeans aM cJ uM)))))))))))) (Nat.le_of_ble_eq_true rfl) dL_law_720 rfl ?_
  refine mk_aload_n C 2 dL_law_723 rfl ?_
  refine mk_aload_n C 0 dL_law_724 rfl ?_
  refine mk_iload_n C 3 dL_law_725 rfl ?_
  refine mk_iconst C (v := 1) dL_law_726 (by decide) ?_
  refine mk_iadd C dL_law_727 ?_
  refine mk_sld C hX hbl hA (mk_ix hL hk (j := 1) (by decide) rfl) dL_law_728 ?_
  refine mk_callLi C (c_X_without l D cI cJ X Y aX uX uL (xs (nI (6 * k) + 1).toNatClampNeg) r wX hx) mw_1290 mw_1291 mw_1292 mw_10 mw_1293 mkn_X9_without rfl ⟨Nat.le_of_ble_eq_true rfl, Nat.le_of_ble_eq_true rfl⟩ ⟨rfl, rfl⟩ ⟨by show 78 + k + 0 + 0 ≤ 600000; omega, by show 15752 + 5 * k + 0 + 0 ≤ 7302250; omega⟩ 55 rfl rfl rfl (mk_Fr.last (wChan aZ aR aT aD aY aP aC aO aA aM ++ (wReader aR aT aD uR ++ (wTape aT cI uT ++ (wPlan aD cI uD ++ (wPlay aY aP aS (mk_crs aC aO wQ) cI wY ++ (wPlan aP cI uP ++ (wStack aS cI wS ++ (wCourse aC cI uC ++ (wCourse aO cI wO ++ (wActs aA cI uA ++ (wMeans aM cJ uM))))))))))) (wModel aX cI cJ uX uL) (wModel aX cI cJ wX uL)) (Nat.le_of_ble_eq_true rfl) dL_law_729 rfl ?_
  refine mk_icmp_eq C 1116 dL_law_732 (by decide) (fun _ => ?_) (fun h9 => absurd rfl h9)
  exact mk_widen (by omega) (by omega) (K wQ uR uT uD wY uP wS uC wO uA uM wX uL hI2)
set_option maxHeartbeats 40000000 in
set_option maxRecDepth 100000 in
theorem law_case23 {p : Program} {l : Launch} {e : Env} {s : State} {m : MethodId} {below : List Frame} {meth : Method} {c : Code} {D : va_G} {X Y : Nat → Nat} {cI cJ : ClassId} {b L : Nat} {xs : Nat → Int32} {aZ aR aT aD aY aP aS aC aO aA aM aX : Nat → Nat} (hL : L ≤ 3072) (C : mk_Cx p s m #[Value.ref b] c code 4 RL D [(cI, .int), (cJ, .long)] X Y (fun q => s.heap.size ≤ q)) (hX : va_X b L xs s s.heap) (hbl : b < s.heap.size) (hr : meth.sig.returnType = ret) (hlk : meth.locks = false) {k : Nat} (hk : 6 * k + 6 ≤ L) {uQ : Nat} {uR uT uD uY uP uS uC uO uA : Nat → Nat → Int32} {uM : Nat → Nat → Int64} {uX : Nat → Nat → Int32} {uL : Nat → Nat → Int64} (hI : mk_Inv uR uT uD uY uP uS uC uO uA uX) (K : ∀ (uQ : Nat) (uR uT uD uY uP uS uC uO uA : Nat → Nat → Int32) (uM : Nat → Nat → Int64) (uX : Nat → Nat → Int32) (uL : Nat → Nat → Int64), mk_Inv uR uT uD uY uP uS uC uO uA uX → mk_Go p l e room_1 s m #[Value.ref b] below meth c D (fun q => s.heap.size ≤ q) 4 (78 + (k + 1)) (15752 + 5 * (k + 1)) (lw_Z below #[Value.ref b] s) 1116 ((wChan aZ aR aT aD aY aP aC aO aA aM ++ (wReader aR aT aD uR ++ (wTape aT cI uT ++ (wPlan aD cI uD ++ (wPlay aY aP aS (mk_crs aC aO uQ) cI uY ++ (wPlan aP cI uP ++ (wStack aS cI uS ++ (wCourse aC cI uC ++ (wCourse aO cI uO ++ (wActs aA cI uA ++ (wMeans aM cJ uM))))))))))) ++ (wModel aX cI cJ uX uL)) [(0, .ref b), (1, .ref (aZ 0)), (2, .ref (aX 0)), (3, .int (nI (6 * k)))] []) : mk_Go p l e room_1 s m #[Value.ref b] below meth c D (fun q => s.heap.size ≤ q) 4 (78 + k) (15752 + 5 * k) (lw_Z below #[Value.ref b] s) 737 ((wChan aZ aR aT aD aY aP aC aO aA aM ++ (wReader aR aT aD uR ++ (wTape aT cI uT ++ (wPlan aD cI uD ++ (wPlay aY aP aS (mk_crs aC aO uQ) cI uY ++ (wPlan aP cI uP ++ (wStack aS cI uS ++ (wCourse aC cI uC ++ (wCourse aO cI uO ++ (wActs aA cI uA ++ (wMeans aM cJ uM))))))))))) ++ (wModel aX cI cJ uX uL)) [(0, .ref b), (1, .ref (aZ 0)), (2, .ref (aX 0)), (3, .int (nI (6 * k)))] [] := by
  obtain ⟨r, hz, hx, hI2⟩ := s_noise  hI (xs (nI (6 * k) + 1).toNatClampNeg) (xs (nI (6 * k) + 2).toNatClampNeg)
  have hA : ¬ (fun q => s.heap.size ≤ q) b := Nat.not_le.mpr hbl
  refine mk_aload_n C 1 dL_law_737 rfl ?_
  refine mk_aload_n C 0 dL_law_738 rfl ?_
  refine mk_iload_n C 3 dL_law_739 rfl ?_
  refine mk_iconst C (v := 1) dL_law_740 (by decide) ?_
  refine mk_iadd C dL_law_741 ?_
  refine mk_sld C hX hbl hA (mk_ix hL hk (j := 1) (by decide) rfl) dL_law_742 ?_
  refine mk_aload_n C 0 dL_law_743 rfl ?_
  refine mk_iload_n C 3 dL_law_744 rfl ?_
  refine mk_iconst C (v := 2) dL_law_745 (by decide) ?_
  refine mk_iadd C dL_law_746 ?_
  refine mk_sld C hX hbl hA (mk_ix hL hk (j := 2) (by decide) rfl) dL_law_747 ?_
  refine mk_callLi C (c_Z_noise l D cI cJ X Y aZ aR aT aD aY aP aS aC aO aA aM uQ uR uT uD uY uP uS uC uO uA uM (xs (nI (6 * k) + 1).toNatClampNeg) (xs (nI (6 * k) + 2).toNatClampNeg) r hz) mw_771 mw_772 mw_773 mw_1 mw_774 mkn_X8_noise rfl ⟨Nat.le_of_ble_eq_true rfl, Nat.le_of_ble_eq_true rfl⟩ ⟨rfl, rfl⟩ ⟨by show 78 + k + 0 ≤ 600000; omega, by show 15752 + 5 * k + 0 ≤ 7302250; omega⟩ 0 rfl rfl rfl (mk_Fr.first (wChan aZ aR aT aD aY aP aC aO aA aM ++ (wReader aR aT aD uR ++ (wTape aT cI uT ++ (wPlan aD cI uD ++ (wPlay aY aP aS (mk_crs aC aO uQ) cI uY ++ (wPlan aP cI uP ++ (wStack aS cI uS ++ (wCourse aC cI uC ++ (wCourse aO cI uO ++ (wActs aA cI uA ++ (wMeans aM cJ uM))))))))))) (wModel aX cI cJ uX uL) (wChan aZ aR aT aD aY aP aC aO aA aM ++ (wReader aR aT aD uR ++ (wTape aT cI uT ++ (wPlan aD cI uD ++ (wPlay aY aP aS (mk_crs aC aO uQ) cI uY ++ (wPlan aP cI uP ++ (wStack aS cI uS ++ (wCourse aC cI uC ++ (wCourse aO cI uO ++ (wActs aA cI uA ++ (wMeans aM cJ uM)))))))))))) (Nat.le_of_ble_eq_true rfl) dL_law_748 rfl ?_
  refine mk_aload_n C 2 dL_law_751 rfl ?_
  refine mk_aload_n C 0 dL_law_752 rfl ?_
  refine mk_iload_n C 3 dL_law_753 rfl ?_
  refine mk_iconst C (v := 1) dL_law_754 (by decide) ?_
  refine mk_iadd C dL_law_755 ?_
  refine mk_sld C hX hbl hA (mk_ix hL hk (j := 1) (by decide) rfl) dL_law_756 ?_
  refine mk_aload_n C 0 dL_law_757 rfl ?_
  refine mk_iload_n C 3 dL_law_758 rfl ?_
  refine mk_iconst C (v := 2) dL_law_759 (by decide) ?_
  refine mk_iadd C dL_law_760 ?_
  refine mk_sld C hX hbl hA (mk_ix hL hk (j := 2) (by decide) rfl) dL_law_761 ?_
  refine mk_callLi C (c_X_noise l D cI cJ X Y aX uX uL (xs (nI (6 * k) + 1).toNatClampNeg) (xs (nI (6 * k) + 2).toNatClampNeg) r hx) mw_1141 mw_1142 mw_1143 mw_10 mw_1144 mkn_X9_noise rfl ⟨Nat.le_of_ble_eq_true rfl, Nat.le_of_ble_eq_true rfl⟩ ⟨rfl, rfl⟩ ⟨by show 78 + k + 0 + 0 ≤ 600000; omega, by show 15752 + 5 * k + 0 + 0 ≤ 7302250; omega⟩ 55 rfl rfl rfl (mk_Fr.last (wChan aZ aR aT aD aY aP aC aO aA aM ++ (wReader aR aT aD uR ++ (wTape aT cI uT ++ (wPlan aD cI uD ++ (wPlay aY aP aS (mk_crs aC aO uQ) cI uY ++ (wPlan aP cI uP ++ (wStack aS cI uS ++ (wCourse aC cI uC ++ (wCourse aO cI uO ++ (wActs aA cI uA ++ (wMeans aM cJ uM))))))))))) (wModel aX cI cJ uX uL) (wModel aX cI cJ uX uL)) (Nat.le_of_ble_eq_true rfl) dL_law_762 rfl ?_
  refine mk_icmp_eq C 1116 dL_law_765 (by decide) (fun _ => ?_) (fun h9 => absurd rfl h9)
  exact mk_widen (by omega) (by omega) (K uQ uR uT uD uY uP uS uC uO uA uM uX uL hI2)
set_option maxHeartbeats 40000000 in
set_option maxRecDepth 100000 in
theorem law_case24 {p : Program} {l : Launch} {e : Env} {s : State} {m : MethodId} {below : List Frame} {meth : Method} {c : Code} {D : va_G} {X Y : Nat → Nat} {cI cJ : ClassId} {b L : Nat} {xs : Nat → Int32} {aZ aR aT aD aY aP aS aC aO aA aM aX : Nat → Nat} (hL : L ≤ 3072) (C : mk_Cx p s m #[Value.ref b] c code 4 RL D [(cI, .int), (cJ, .long)] X Y (fun q => s.heap.size ≤ q)) (hX : va_X b L xs s s.heap) (hbl : b < s.heap.size) (hr : meth.sig.returnType = ret) (hlk : meth.locks = false) {k : Nat} (hk : 6 * k + 6 ≤ L) {uQ : Nat} {uR uT uD uY uP uS uC uO uA : Nat → Nat → Int32} {uM : Nat → Nat → Int64} {uX : Nat → Nat → Int32} {uL : Nat → Nat → Int64} (hI : mk_Inv uR uT uD uY uP uS uC uO uA uX) (K : ∀ (uQ : Nat) (uR uT uD uY uP uS uC uO uA : Nat → Nat → Int32) (uM : Nat → Nat → Int64) (uX : Nat → Nat → Int32) (uL : Nat → Nat → Int64), mk_Inv uR uT uD uY uP uS uC uO uA uX → mk_Go p l e room_1 s m #[Value.ref b] below meth c D (fun q => s.heap.size ≤ q) 4 (78 + (k + 1)) (15752 + 5 * (k + 1)) (lw_Z below #[Value.ref b] s) 1116 ((wChan aZ aR aT aD aY aP aC aO aA aM ++ (wReader aR aT aD uR ++ (wTape aT cI uT ++ (wPlan aD cI uD ++ (wPlay aY aP aS (mk_crs aC aO uQ) cI uY ++ (wPlan aP cI uP ++ (wStack aS cI uS ++ (wCourse aC cI uC ++ (wCourse aO cI uO ++ (wActs aA cI uA ++ (wMeans aM cJ uM))))))))))) ++ (wModel aX cI cJ uX uL)) [(0, .ref b), (1, .ref (aZ 0)), (2, .ref (aX 0)), (3, .int (nI (6 * k)))] []) : mk_Go p l e room_1 s m #[Value.ref b] below meth c D (fun q => s.heap.size ≤ q) 4 (78 + k) (15752 + 5 * k) (lw_Z below #[Value.ref b] s) 770 ((wChan aZ aR aT aD aY aP aC aO aA aM ++ (wReader aR aT aD uR ++ (wTape aT cI uT ++ (wPlan aD cI uD ++ (wPlay aY aP aS (mk_crs aC aO uQ) cI uY ++ (wPlan aP cI uP ++ (wStack aS cI uS ++ (wCourse aC cI uC ++ (wCourse aO cI uO ++ (wActs aA cI uA ++ (wMeans aM cJ uM))))))))))) ++ (wModel aX cI cJ uX uL)) [(0, .ref b), (1, .ref (aZ 0)), (2, .ref (aX 0)), (3, .int (nI (6 * k)))] [] := by
  obtain ⟨r, wQ, wY, wS, wO, wX, hz, hx, hI2⟩ := s_alone uQ hI (xs (nI (6 * k) + 1).toNatClampNeg)
  have hA : ¬ (fun q => s.heap.size ≤ q) b := Nat.not_le.mpr hbl
  refine mk_aload_n C 1 dL_law_770 rfl ?_
  refine mk_aload_n C 0 dL_law_771 rfl ?_
  refine mk_iload_n C 3 dL_law_772 rfl ?_
  refine mk_iconst C (v := 1) dL_law_773 (by decide) ?_
  refine mk_iadd C dL_law_774 ?_
  refine mk_sld C hX hbl hA (mk_ix hL hk (j := 1) (by decide) rfl) dL_law_775 ?_
  refine mk_callLi C (c_Z_alone l D cI cJ X Y aZ aR aT aD aY aP aS aC aO aA aM uQ uR uT uD uY uP uS uC uO uA uM (xs (nI (6 * k) + 1).toNatClampNeg) r wQ wY wS wO hz) mw_775 mw_776 mw_777 mw_1 mw_778 mkn_X8_alone rfl ⟨Nat.le_of_ble_eq_true rfl, Nat.le_of_ble_eq_true rfl⟩ ⟨rfl, rfl⟩ ⟨by show 78 + k + 0 ≤ 600000; omega, by show 15752 + 5 * k + 0 ≤ 7302250; omega⟩ 0 rfl rfl rfl (mk_Fr.first (wChan aZ aR aT aD aY aP aC aO aA aM ++ (wReader aR aT aD uR ++ (wTape aT cI uT ++ (wPlan aD cI uD ++ (wPlay aY aP aS (mk_crs aC aO uQ) cI uY ++ (wPlan aP cI uP ++ (wStack aS cI uS ++ (wCourse aC cI uC ++ (wCourse aO cI uO ++ (wActs aA cI uA ++ (wMeans aM cJ uM))))))))))) (wModel aX cI cJ uX uL) (wChan aZ aR aT aD aY aP aC aO aA aM ++ (wReader aR aT aD uR ++ (wTape aT cI uT ++ (wPlan aD cI uD ++ (wPlay aY aP aS (mk_crs aC aO wQ) cI wY ++ (wPlan aP cI uP ++ (wStack aS cI wS ++ (wCourse aC cI uC ++ (wCourse aO cI wO ++ (wActs aA cI uA ++ (wMeans aM cJ uM)))))))))))) (Nat.le_of_ble_eq_true rfl) dL_law_776 rfl ?_
  refine mk_aload_n C 2 dL_law_779 rfl ?_
  refine mk_aload_n C 0 dL_law_780 rfl ?_
  refine mk_iload_n C 3 dL_law_781 rfl ?_
  refine mk_iconst C (v := 1) dL_law_782 (by decide) ?_
  refine mk_iadd C dL_law_783 ?_
  refine mk_sld C hX hbl hA (mk_ix hL hk (j := 1) (by decide) rfl) dL_law_784 ?_
  refine mk_callLi C (c_X_alone l D cI cJ X Y aX uX uL (xs (nI (6 * k) + 1).toNatClampNeg) r wX hx) mw_1298 mw_1299 mw_1300 mw_10 mw_1301 mkn_X9_alone rfl ⟨Nat.le_of_ble_eq_true rfl, Nat.le_of_ble_eq_true rfl⟩ ⟨rfl, rfl⟩ ⟨by show 78 + k + 0 + 0 ≤ 600000; omega, by show 15752 + 5 * k + 0 + 0 ≤ 7302250; omega⟩ 55 rfl rfl rfl (mk_Fr.last (wChan aZ aR aT aD aY aP aC aO aA aM ++ (wReader aR aT aD uR ++ (wTape aT cI uT ++ (wPlan aD cI uD ++ (wPlay aY aP aS (mk_crs aC aO wQ) cI wY ++ (wPlan aP cI uP ++ (wStack aS cI wS ++ (wCourse aC cI uC ++ (wCourse aO cI wO ++ (wActs aA cI uA ++ (wMeans aM cJ uM))))))))))) (wModel aX cI cJ uX uL) (wModel aX cI cJ wX uL)) (Nat.le_of_ble_eq_true rfl) dL_law_785 rfl ?_
  refine mk_icmp_eq C 1116 dL_law_788 (by decide) (fun _ => ?_) (fun h9 => absurd rfl h9)
  exact mk_widen (by omega) (by omega) (K wQ uR uT uD wY uP wS uC wO uA uM wX uL hI2)
set_option maxHeartbeats 40000000 in
set_option maxRecDepth 100000 in
theorem law_case25 {p : Program} {l : Launch} {e : Env} {s : State} {m : MethodId} {below : List Frame} {meth : Method} {c : Code} {D : va_G} {X Y : Nat → Nat} {cI cJ : ClassId} {b L : Nat} {xs : Nat → Int32} {aZ aR aT aD aY aP aS aC aO aA aM aX : Nat → Nat} (hL : L ≤ 3072) (C : mk_Cx p s m #[Value.ref b] c code 4 RL D [(cI, .int), (cJ, .long)] X Y (fun q => s.heap.size ≤ q)) (hX : va_X b L xs s s.heap) (hbl : b < s.heap.size) (hr : meth.sig.returnType = ret) (hlk : meth.locks = false) {k : Nat} (hk : 6 * k + 6 ≤ L) {uQ : Nat} {uR uT uD uY uP uS uC uO uA : Nat → Nat → Int32} {uM : Nat → Nat → Int64} {uX : Nat → Nat → Int32} {uL : Nat → Nat → Int64} (hI : mk_Inv uR uT uD uY uP uS uC uO uA uX) (K : ∀ (uQ : Nat) (uR uT uD uY uP uS uC uO uA : Nat → Nat → Int32) (uM : Nat → Nat → Int64) (uX : Nat → Nat → Int32) (uL : Nat → Nat → Int64), mk_Inv uR uT uD uY uP uS uC uO uA uX → mk_Go p l e room_1 s m #[Value.ref b] below meth c D (fun q => s.heap.size ≤ q) 4 (78 + (k + 1)) (15752 + 5 * (k + 1)) (lw_Z below #[Value.ref b] s) 1116 ((wChan aZ aR aT aD aY aP aC aO aA aM ++ (wReader aR aT aD uR ++ (wTape aT cI uT ++ (wPlan aD cI uD ++ (wPlay aY aP aS (mk_crs aC aO uQ) cI uY ++ (wPlan aP cI uP ++ (wStack aS cI uS ++ (wCourse aC cI uC ++ (wCourse aO cI uO ++ (wActs aA cI uA ++ (wMeans aM cJ uM))))))))))) ++ (wModel aX cI cJ uX uL)) [(0, .ref b), (1, .ref (aZ 0)), (2, .ref (aX 0)), (3, .int (nI (6 * k)))] []) : mk_Go p l e room_1 s m #[Value.ref b] below meth c D (fun q => s.heap.size ≤ q) 4 (78 + k) (15752 + 5 * k) (lw_Z below #[Value.ref b] s) 793 ((wChan aZ aR aT aD aY aP aC aO aA aM ++ (wReader aR aT aD uR ++ (wTape aT cI uT ++ (wPlan aD cI uD ++ (wPlay aY aP aS (mk_crs aC aO uQ) cI uY ++ (wPlan aP cI uP ++ (wStack aS cI uS ++ (wCourse aC cI uC ++ (wCourse aO cI uO ++ (wActs aA cI uA ++ (wMeans aM cJ uM))))))))))) ++ (wModel aX cI cJ uX uL)) [(0, .ref b), (1, .ref (aZ 0)), (2, .ref (aX 0)), (3, .int (nI (6 * k)))] [] := by
  obtain ⟨r, wQ, wY, wS, wO, wX, hz, hx, hI2⟩ := s_worst uQ hI 
  have hA : ¬ (fun q => s.heap.size ≤ q) b := Nat.not_le.mpr hbl
  refine mk_aload_n C 1 dL_law_793 rfl ?_
  refine mk_callLi C (c_Z_worst l D cI cJ X Y aZ aR aT aD aY aP aS aC aO aA aM uQ uR uT uD uY uP uS uC uO uA uM r wQ wY wS wO hz) mw_779 mw_780 mw_781 mw_1 mw_782 mkn_X8_worst rfl ⟨Nat.le_of_ble_eq_true rfl, Nat.le_of_ble_eq_true rfl⟩ ⟨rfl, rfl⟩ ⟨by show 78 + k + 0 ≤ 600000; omega, by show 15752 + 5 * k + 0 ≤ 7302250; omega⟩ 0 rfl rfl rfl (mk_Fr.first (wChan aZ aR aT aD aY aP aC aO aA aM ++ (wReader aR aT aD uR ++ (wTape aT cI uT ++ (wPlan aD cI uD ++ (wPlay aY aP aS (mk_crs aC aO uQ) cI uY ++ (wPlan aP cI uP ++ (wStack aS cI uS ++ (wCourse aC cI uC ++ (wCourse aO cI uO ++ (wActs aA cI uA ++ (wMeans aM cJ uM))))))))))) (wModel aX cI cJ uX uL) (wChan aZ aR aT aD aY aP aC aO aA aM ++ (wReader aR aT aD uR ++ (wTape aT cI uT ++ (wPlan aD cI uD ++ (wPlay aY aP aS (mk_crs aC aO wQ) cI wY ++ (wPlan aP cI uP ++ (wStack aS cI wS ++ (wCourse aC cI uC ++ (wCourse aO cI wO ++ (wActs aA cI uA ++ (wMeans aM cJ uM)))))))))))) (Nat.le_of_ble_eq_true rfl) dL_law_794 rfl ?_
  refine mk_aload_n C 2 dL_law_797 rfl ?_
  refine mk_callLi C (c_X_worst l D cI cJ X Y aX uX uL r wX hx) mw_1302 mw_1303 mw_1304 mw_10 mw_1305 mkn_X9_worst rfl ⟨Nat.le_of_ble_eq_true rfl, Nat.le_of_ble_eq_true rfl⟩ ⟨rfl, rfl⟩ ⟨by show 78 + k + 0 + 0 ≤ 600000; omega, by show 15752 + 5 * k + 0 + 0 ≤ 7302250; omega⟩ 55 rfl rfl rfl (mk_Fr.last (wChan aZ aR aT aD aY aP aC aO aA aM ++ (wReader aR aT aD uR ++ (wTape aT cI uT ++ (wPlan aD cI uD ++ (wPlay aY aP aS (mk_crs aC aO wQ) cI wY ++ (wPlan aP cI uP ++ (wStack aS cI wS ++ (wCourse aC cI uC ++ (wCourse aO cI wO ++ (wActs aA cI uA ++ (wMeans aM cJ uM))))))))))) (wModel aX cI cJ uX uL) (wModel aX cI cJ wX uL)) (Nat.le_of_ble_eq_true rfl) dL_law_798 rfl ?_
  refine mk_icmp_eq C 1116 dL_law_801 (by decide) (fun _ => ?_) (fun h9 => absurd rfl h9)
  exact mk_widen (by omega) (by omega) (K wQ uR uT uD wY uP wS uC wO uA uM wX uL hI2)
set_option maxHeartbeats 40000000 in
set_option maxRecDepth 100000 in
theorem law_case26 {p : Program} {l : Launch} {e : Env} {s : State} {m : MethodId} {below : List Frame} {meth : Method} {c : Code} {D : va_G} {X Y : Nat → Nat} {cI cJ : ClassId} {b L : Nat} {xs : Nat → Int32} {aZ aR aT aD aY aP aS aC aO aA aM aX : Nat → Nat} (hL : L ≤ 3072) (C : mk_Cx p s m #[Value.ref b] c code 4 RL D [(cI, .int), (cJ, .long)] X Y (fun q => s.heap.size ≤ q)) (hX : va_X b L xs s s.heap) (hbl : b < s.heap.size) (hr : meth.sig.returnType = ret) (hlk : meth.locks = false) {k : Nat} (hk : 6 * k + 6 ≤ L) {uQ : Nat} {uR uT uD uY uP uS uC uO uA : Nat → Nat → Int32} {uM : Nat → Nat → Int64} {uX : Nat → Nat → Int32} {uL : Nat → Nat → Int64} (hI : mk_Inv uR uT uD uY uP uS uC uO uA uX) (K : ∀ (uQ : Nat) (uR uT uD uY uP uS uC uO uA : Nat → Nat → Int32) (uM : Nat → Nat → Int64) (uX : Nat → Nat → Int32) (uL : Nat → Nat → Int64), mk_Inv uR uT uD uY uP uS uC uO uA uX → mk_Go p l e room_1 s m #[Value.ref b] below meth c D (fun q => s.heap.size ≤ q) 4 (78 + (k + 1)) (15752 + 5 * (k + 1)) (lw_Z below #[Value.ref b] s) 1116 ((wChan aZ aR aT aD aY aP aC aO aA aM ++ (wReader aR aT aD uR ++ (wTape aT cI uT ++ (wPlan aD cI uD ++ (wPlay aY aP aS (mk_crs aC aO uQ) cI uY ++ (wPlan aP cI uP ++ (wStack aS cI uS ++ (wCourse aC cI uC ++ (wCourse aO cI uO ++ (wActs aA cI uA ++ (wMeans aM cJ uM))))))))))) ++ (wModel aX cI cJ uX uL)) [(0, .ref b), (1, .ref (aZ 0)), (2, .ref (aX 0)), (3, .int (nI (6 * k)))] []) : mk_Go p l e room_1 s m #[Value.ref b] below meth c D (fun q => s.heap.size ≤ q) 4 (78 + k) (15752 + 5 * k) (lw_Z below #[Value.ref b] s) 806 ((wChan aZ aR aT aD aY aP aC aO aA aM ++ (wReader aR aT aD uR ++ (wTape aT cI uT ++ (wPlan aD cI uD ++ (wPlay aY aP aS (mk_crs aC aO uQ) cI uY ++ (wPlan aP cI uP ++ (wStack aS cI uS ++ (wCourse aC cI uC ++ (wCourse aO cI uO ++ (wActs aA cI uA ++ (wMeans aM cJ uM))))))))))) ++ (wModel aX cI cJ uX uL)) [(0, .ref b), (1, .ref (aZ 0)), (2, .ref (aX 0)), (3, .int (nI (6 * k)))] [] := by
  obtain ⟨r, wM, wL, hz, hx, hI2⟩ := s_mean uM uL hI (xs (nI (6 * k) + 1).toNatClampNeg) (xs (nI (6 * k) + 2).toNatClampNeg) (xs (nI (6 * k) + 3).toNatClampNeg)
  have hA : ¬ (fun q => s.heap.size ≤ q) b := Nat.not_le.mpr hbl
  refine mk_aload_n C 1 dL_law_806 rfl ?_
  refine mk_aload_n C 0 dL_law_807 rfl ?_
  refine mk_iload_n C 3 dL_law_808 rfl ?_
  refine mk_iconst C (v := 1) dL_law_809 (by decide) ?_
  refine mk_iadd C dL_law_810 ?_
  refine mk_sld C hX hbl hA (mk_ix hL hk (j := 1) (by decide) rfl) dL_law_811 ?_
  refine mk_aload_n C 0 dL_law_812 rfl ?_
  refine mk_iload_n C 3 dL_law_813 rfl ?_
  refine mk_iconst C (v := 2) dL_law_814 (by decide) ?_
  refine mk_iadd C dL_law_815 ?_
  refine mk_sld C hX hbl hA (mk_ix hL hk (j := 2) (by decide) rfl) dL_law_816 ?_
  refine mk_aload_n C 0 dL_law_817 rfl ?_
  refine mk_iload_n C 3 dL_law_818 rfl ?_
  refine mk_iconst C (v := 3) dL_law_819 (by decide) ?_
  refine mk_iadd C dL_law_820 ?_
  refine mk_sld C hX hbl hA (mk_ix hL hk (j := 3) (by decide) rfl) dL_law_821 ?_
  refine mk_callLl C (c_Z_mean l D cI cJ X Y aZ aR aT aD aY aP aS aC aO aA aM uQ uR uT uD uY uP uS uC uO uA uM (xs (nI (6 * k) + 1).toNatClampNeg) (xs (nI (6 * k) + 2).toNatClampNeg) (xs (nI (6 * k) + 3).toNatClampNeg) r wM hz) mw_783 mw_784 mw_785 mw_1 mw_786 mkn_X8_mean rfl ⟨Nat.le_of_ble_eq_true rfl, Nat.le_of_ble_eq_true rfl⟩ ⟨rfl, rfl⟩ ⟨by show 78 + k + 0 ≤ 600000; omega, by show 15752 + 5 * k + 0 ≤ 7302250; omega⟩ 0 rfl rfl rfl (mk_Fr.first (wChan aZ aR aT aD aY aP aC aO aA aM ++ (wReader aR aT aD uR ++ (wTape aT cI uT ++ (wPlan aD cI uD ++ (wPlay aY aP aS (mk_crs aC aO uQ) cI uY ++ (wPlan aP cI uP ++ (wStack aS cI uS ++ (wCourse aC cI uC ++ (wCourse aO cI uO ++ (wActs aA cI uA ++ (wMeans aM cJ uM))))))))))) (wModel aX cI cJ uX uL) (wChan aZ aR aT aD aY aP aC aO aA aM ++ (wReader aR aT aD uR ++ (wTape aT cI uT ++ (wPlan aD cI uD ++ (wPlay aY aP aS (mk_crs aC aO uQ) cI uY ++ (wPlan aP cI uP ++ (wStack aS cI uS ++ (wCourse aC cI uC ++ (wCourse aO cI uO ++ (wActs aA cI uA ++ (wMeans aM cJ wM)))))))))))) (Nat.le_of_ble_eq_true rfl) dL_law_822 rfl ?_
  refine mk_aload_n C 2 dL_law_825 rfl ?_
  refine mk_aload_n C 0 dL_law_826 rfl ?_
  refine mk_iload_n C 3 dL_law_827 rfl ?_
  refine mk_iconst C (v := 1) dL_law_828 (by decide) ?_
  refine mk_iadd C dL_law_829 ?_
  refine mk_sld C hX hbl hA (mk_ix hL hk (j := 1) (by decide) rfl) dL_law_830 ?_
  refine mk_aload_n C 0 dL_law_831 rfl ?_
  refine mk_iload_n C 3 dL_law_832 rfl ?_
  refine mk_iconst C (v := 2) dL_law_833 (by decide) ?_
  refine mk_iadd C dL_law_834 ?_
  refine mk_sld C hX hbl hA (mk_ix hL hk (j := 2) (by decide) rfl) dL_law_835 ?_
  refine mk_aload_n C 0 dL_law_836 rfl ?_
  refine mk_iload_n C 3 dL_law_837 rfl ?_
  refine mk_iconst C (v := 3) dL_law_838 (by decide) ?_
  refine mk_iadd C dL_law_839 ?_
  refine mk_sld C hX hbl hA (mk_ix hL hk (j := 3) (by decide) rfl) dL_law_840 ?_
  refine mk_callLl C (c_X_mean l D cI cJ X Y aX uX uL (xs (nI (6 * k) + 1).toNatClampNeg) (xs (nI (6 * k) + 2).toNatClampNeg) (xs (nI (6 * k) + 3).toNatClampNeg) r wL hx) mw_1306 mw_1307 mw_1308 mw_10 mw_1309 mkn_X9_mean rfl ⟨Nat.le_of_ble_eq_true rfl, Nat.le_of_ble_eq_true rfl⟩ ⟨rfl, rfl⟩ ⟨by show 78 + k + 0 + 0 ≤ 600000; omega, by show 15752 + 5 * k + 0 + 0 ≤ 7302250; omega⟩ 55 rfl rfl rfl (mk_Fr.last (wChan aZ aR aT aD aY aP aC aO aA aM ++ (wReader aR aT aD uR ++ (wTape aT cI uT ++ (wPlan aD cI uD ++ (wPlay aY aP aS (mk_crs aC aO uQ) cI uY ++ (wPlan aP cI uP ++ (wStack aS cI uS ++ (wCourse aC cI uC ++ (wCourse aO cI uO ++ (wActs aA cI uA ++ (wMeans aM cJ wM))))))))))) (wModel aX cI cJ uX uL) (wModel aX cI cJ uX wL)) (Nat.le_of_ble_eq_true rfl) dL_law_841 rfl ?_
  refine mk_lcmp C dL_law_844 ?_
  refine mk_if_eq C 1116 dL_law_845 (by decide) (fun _ => ?_) (fun h9 => absurd ((lg_cmp_eq r r).mpr rfl) h9)
  exact mk_widen (by omega) (by omega) (K uQ uR uT uD uY uP uS uC uO uA wM uX wL hI2)
set_option maxHeartbeats 40000000 in
set_option maxRecDepth 100000 in
theorem law_case27 {p : Program} {l : Launch} {e : Env} {s : State} {m : MethodId} {below : List Frame} {meth : Method} {c : Code} {D : va_G} {X Y : Nat → Nat} {cI cJ : ClassId} {b L : Nat} {xs : Nat → Int32} {aZ aR aT aD aY aP aS aC aO aA aM aX : Nat → Nat} (hL : L ≤ 3072) (C : mk_Cx p s m #[Value.ref b] c code 4 RL D [(cI, .int), (cJ, .long)] X Y (fun q => s.heap.size ≤ q)) (hX : va_X b L xs s s.heap) (hbl : b < s.heap.size) (hr : meth.sig.returnType = ret) (hlk : meth.locks = false) {k : Nat} (hk : 6 * k + 6 ≤ L) {uQ : Nat} {uR uT uD uY uP uS uC uO uA : Nat → Nat → Int32} {uM : Nat → Nat → Int64} {uX : Nat → Nat → Int32} {uL : Nat → Nat → Int64} (hI : mk_Inv uR uT uD uY uP uS uC uO uA uX) (K : ∀ (uQ : Nat) (uR uT uD uY uP uS uC uO uA : Nat → Nat → Int32) (uM : Nat → Nat → Int64) (uX : Nat → Nat → Int32) (uL : Nat → Nat → Int64), mk_Inv uR uT uD uY uP uS uC uO uA uX → mk_Go p l e room_1 s m #[Value.ref b] below meth c D (fun q => s.heap.size ≤ q) 4 (78 + (k + 1)) (15752 + 5 * (k + 1)) (lw_Z below #[Value.ref b] s) 1116 ((wChan aZ aR aT aD aY aP aC aO aA aM ++ (wReader aR aT aD uR ++ (wTape aT cI uT ++ (wPlan aD cI uD ++ (wPlay aY aP aS (mk_crs aC aO uQ) cI uY ++ (wPlan aP cI uP ++ (wStack aS cI uS ++ (wCourse aC cI uC ++ (wCourse aO cI uO ++ (wActs aA cI uA ++ (wMeans aM cJ uM))))))))))) ++ (wModel aX cI cJ uX uL)) [(0, .ref b), (1, .ref (aZ 0)), (2, .ref (aX 0)), (3, .int (nI (6 * k)))] []) : mk_Go p l e room_1 s m #[Value.ref b] below meth c D (fun q => s.heap.size ≤ q) 4 (78 + k) (15752 + 5 * k) (lw_Z below #[Value.ref b] s) 850 ((wChan aZ aR aT aD aY aP aC aO aA aM ++ (wReader aR aT aD uR ++ (wTape aT cI uT ++ (wPlan aD cI uD ++ (wPlay aY aP aS (mk_crs aC aO uQ) cI uY ++ (wPlan aP cI uP ++ (wStack aS cI uS ++ (wCourse aC cI uC ++ (wCourse aO cI uO ++ (wActs aA cI uA ++ (wMeans aM cJ uM))))))))))) ++ (wModel aX cI cJ uX uL)) [(0, .ref b), (1, .ref (aZ 0)), (2, .ref (aX 0)), (3, .int (nI (6 * k)))] [] := by
  obtain ⟨r, wM, wL, hz, hx, hI2⟩ := s_leaning uM uL hI (xs (nI (6 * k) + 1).toNatClampNeg) (xs (nI (6 * k) + 2).toNatClampNeg) (xs (nI (6 * k) + 3).toNatClampNeg) (xs (nI (6 * k) + 4).toNatClampNeg) (xs (nI (6 * k) + 5).toNatClampNeg)
  have hA : ¬ (fun q => s.heap.size ≤ q) b := Nat.not_le.mpr hbl
  refine mk_aload_n C 1 dL_law_850 rfl ?_
  refine mk_aload_n C 0 dL_law_851 rfl ?_
  refine mk_iload_n C 3 dL_law_852 rfl ?_
  refine mk_iconst C (v := 1) dL_law_853 (by decide) ?_
  refine mk_iadd C dL_law_854 ?_
  refine mk_sld C hX hbl hA (mk_ix hL hk (j := 1) (by decide) rfl) dL_law_855 ?_
  refine mk_aload_n C 0 dL_law_856 rfl ?_
  refine mk_iload_n C 3 dL_law_857 rfl ?_
  refine mk_iconst C (v := 2) dL_law_858 (by decide) ?_
  refine mk_iadd C dL_law_859 ?_
  refine mk_sld C hX hbl hA (mk_ix hL hk (j := 2) (by decide) rfl) dL_law_860 ?_
  refine mk_aload_n C 0 dL_law_861 rfl ?_
  refine mk_iload_n C 3 dL_law_862 rfl ?_
  refine mk_iconst C (v := 3) dL_law_863 (by decide) ?_
  refine mk_iadd C dL_law_864 ?_
  refine mk_sld C hX hbl hA (mk_ix hL hk (j := 3) (by decide) rfl) dL_law_865 ?_
  refine mk_aload_n C 0 dL_law_866 rfl ?_
  refine mk_iload_n C 3 dL_law_867 rfl ?_
  refine mk_iconst C (v := 4) dL_law_868 (by decide) ?_
  refine mk_iadd C dL_law_869 ?_
  refine mk_sld C hX hbl hA (mk_ix hL hk (j := 4) (by decide) rfl) dL_law_870 ?_
  refine mk_aload_n C 0 dL_law_871 rfl ?_
  refine mk_iload_n C 3 dL_law_872 rfl ?_
  refine mk_iconst C (v := 5) dL_law_873 (by decide) ?_
  refine mk_iadd C dL_law_874 ?_
  refine mk_sld C hX hbl hA (mk_ix hL hk (j := 5) (by decide) rfl) dL_law_875 ?_
  refine mk_callLl C (c_Z_leaning l D cI cJ X Y aZ aR aT aD aY aP aS aC aO aA aM uQ uR uT uD uY uP uS uC uO uA uM (xs (nI (6 * k) + 1).toNatClampNeg) (xs (nI (6 * k) + 2).toNatClampNeg) (xs (nI (6 * k) + 3).toNatClampNeg) (xs (nI (6 * k) + 4).toNatClampNeg) (xs (nI (6 * k) + 5).toNatClampNeg) r wM hz) mw_826 mw_827 mw_828 mw_1 mw_829 mkn_X8_leaning rfl ⟨Nat.le_of_ble_eq_true rfl, Nat.le_of_ble_eq_true rfl⟩ ⟨rfl, rfl⟩ ⟨by show 78 + k + 0 ≤ 600000; omega, by show 15752 + 5 * k + 0 ≤ 7302250; omega⟩ 0 rfl rfl rfl (mk_Fr.first (wChan aZ aR aT aD aY aP aC aO aA aM ++ (wReader aR aT aD uR ++ (wTape aT cI uT ++ (wPlan aD cI uD ++ (wPlay aY aP aS (mk_crs aC aO uQ) cI uY ++ (wPlan aP cI uP ++ (wStack aS cI uS ++ (wCourse aC cI uC ++ (wCourse aO cI uO ++ (wActs aA cI uA ++ (wMeans aM cJ uM))))))))))) (wModel aX cI cJ uX uL) (wChan aZ aR aT aD aY aP aC aO aA aM ++ (wReader aR aT aD uR ++ (wTape aT cI uT ++ (wPlan aD cI uD ++ (wPlay aY aP aS (mk_crs aC aO uQ) cI uY ++ (wPlan aP cI uP ++ (wStack aS cI uS ++ (wCourse aC cI uC ++ (wCourse aO cI uO ++ (wActs aA cI uA ++ (wMeans aM cJ wM)))))))))))) (Nat.le_of_ble_eq_true rfl) dL_law_876 rfl ?_
  refine mk_aload_n C 2 dL_law_879 rfl ?_
  refine mk_aload_n C 0 dL_law_880 rfl ?_
  refine mk_iload_n C 3 dL_law_881 rfl ?_
  refine mk_iconst C (v := 1) dL_law_882 (by decide) ?_
  refine mk_iadd C dL_law_883 ?_
  refine mk_sld C hX hbl hA (mk_ix hL hk (j := 1) (by decide) rfl) dL_law_884 ?_
  refine mk_aload_n C 0 dL_law_885 rfl ?_
  refine mk_iload_n C 3 dL_law_886 rfl ?_
  refine mk_iconst C (v := 2) dL_law_887 (by decide) ?_
  refine mk_iadd C dL_law_888 ?_
  refine mk_sld C hX hbl hA (mk_ix hL hk (j := 2) (by decide) rfl) dL_law_889 ?_
  refine mk_aload_n C 0 dL_law_890 rfl ?_
  refine mk_iload_n C 3 dL_law_891 rfl ?_
  refine mk_iconst C (v := 3) dL_law_892 (by decide) ?_
  refine mk_iadd C dL_law_893 ?_
  refine mk_sld C hX hbl hA (mk_ix hL hk (j := 3) (by decide) rfl) dL_law_894 ?_
  refine mk_aload_n C 0 dL_law_895 rfl ?_
  refine mk_iload_n C 3 dL_law_896 rfl ?_
  refine mk_iconst C (v := 4) dL_law_897 (by decide) ?_
  refine mk_iadd C dL_law_898 ?_
  refine mk_sld C hX hbl hA (mk_ix hL hk (j := 4) (by decide) rfl) dL_law_899 ?_
  refine mk_aload_n C 0 dL_law_900 rfl ?_
  refine mk_iload_n C 3 dL_law_901 rfl ?_
  refine mk_iconst C (v := 5) dL_law_902 (by decide) ?_
  refine mk_iadd C dL_law_903 ?_
  refine mk_sld C hX hbl hA (mk_ix hL hk (j := 5) (by decide) rfl) dL_law_904 ?_
  refine mk_callLl C (c_X_leaning l D cI cJ X Y aX uX uL (xs (nI (6 * k) + 1).toNatClampNeg) (xs (nI (6 * k) + 2).toNatClampNeg) (xs (nI (6 * k) + 3).toNatClampNeg) (xs (nI (6 * k) + 4).toNatClampNeg) (xs (nI (6 * k) + 5).toNatClampNeg) r wL hx) mw_1342 mw_1343 mw_1344 mw_10 mw_1345 mkn_X9_leaning rfl ⟨Nat.le_of_ble_eq_true rfl, Nat.le_of_ble_eq_true rfl⟩ ⟨rfl, rfl⟩ ⟨by show 78 + k + 0 + 0 ≤ 600000; omega, by show 15752 + 5 * k + 0 + 0 ≤ 7302250; omega⟩ 55 rfl rfl rfl (mk_Fr.last (wChan aZ aR aT aD aY aP aC aO aA aM ++ (wReader aR aT aD uR ++ (wTape aT cI uT ++ (wPlan aD cI uD ++ (wPlay aY aP aS (mk_crs aC aO uQ) cI uY ++ (wPlan aP cI uP ++ (wStack aS cI uS ++ (wCourse aC cI uC ++ (wCourse aO cI uO ++ (wActs aA cI uA ++ (wMeans aM cJ wM))))))))))) (wModel aX cI cJ uX uL) (wModel aX cI cJ uX wL)) (Nat.le_of_ble_eq_true rfl) dL_law_905 rfl ?_
  refine mk_lcmp C dL_law_908 ?_
  refine mk_if_eq C 1116 dL_law_909 (by decide) (fun _ => ?_) (fun h9 => absurd ((lg_cmp_eq r r).mpr rfl) h9)
  exact mk_widen (by omega) (by omega) (K uQ uR uT uD uY uP uS uC uO uA wM uX wL hI2)
set_option maxHeartbeats 40000000 in
set_option maxRecDepth 100000 in
theorem law_case28 {p : Program} {l : Launch} {e : Env} {s : State} {m : MethodId} {below : List Frame} {meth : Method} {c : Code} {D : va_G} {X Y : Nat → Nat} {cI cJ : ClassId} {b L : Nat} {xs : Nat → Int32} {aZ aR aT aD aY aP aS aC aO aA aM aX : Nat → Nat} (hL : L ≤ 3072) (C : mk_Cx p s m #[Value.ref b] c code 4 RL D [(cI, .int), (cJ, .long)] X Y (fun q => s.heap.size ≤ q)) (hX : va_X b L xs s s.heap) (hbl : b < s.heap.size) (hr : meth.sig.returnType = ret) (hlk : meth.locks = false) {k : Nat} (hk : 6 * k + 6 ≤ L) {uQ : Nat} {uR uT uD uY uP uS uC uO uA : Nat → Nat → Int32} {uM : Nat → Nat → Int64} {uX : Nat → Nat → Int32} {uL : Nat → Nat → Int64} (hI : mk_Inv uR uT uD uY uP uS uC uO uA uX) (K : ∀ (uQ : Nat) (uR uT uD uY uP uS uC uO uA : Nat → Nat → Int32) (uM : Nat → Nat → Int64) (uX : Nat → Nat → Int32) (uL : Nat → Nat → Int64), mk_Inv uR uT uD uY uP uS uC uO uA uX → mk_Go p l e room_1 s m #[Value.ref b] below meth c D (fun q => s.heap.size ≤ q) 4 (78 + (k + 1)) (15752 + 5 * (k + 1)) (lw_Z below #[Value.ref b] s) 1116 ((wChan aZ aR aT aD aY aP aC aO aA aM ++ (wReader aR aT aD uR ++ (wTape aT cI uT ++ (wPlan aD cI uD ++ (wPlay aY aP aS (mk_crs aC aO uQ) cI uY ++ (wPlan aP cI uP ++ (wStack aS cI uS ++ (wCourse aC cI uC ++ (wCourse aO cI uO ++ (wActs aA cI uA ++ (wMeans aM cJ uM))))))))))) ++ (wModel aX cI cJ uX uL)) [(0, .ref b), (1, .ref (aZ 0)), (2, .ref (aX 0)), (3, .int (nI (6 * k)))] []) : mk_Go p l e room_1 s m #[Value.ref b] below meth c D (fun q => s.heap.size ≤ q) 4 (78 + k) (15752 + 5 * k) (lw_Z below #[Value.ref b] s) 914 ((wChan aZ aR aT aD aY aP aC aO aA aM ++ (wReader aR aT aD uR ++ (wTape aT cI uT ++ (wPlan aD cI uD ++ (wPlay aY aP aS (mk_crs aC aO uQ) cI uY ++ (wPlan aP cI uP ++ (wStack aS cI uS ++ (wCourse aC cI uC ++ (wCourse aO cI uO ++ (wActs aA cI uA ++ (wMeans aM cJ uM))))))))))) ++ (wModel aX cI cJ uX uL)) [(0, .ref b), (1, .ref (aZ 0)), (2, .ref (aX 0)), (3, .int (nI (6 * k)))] [] := by
  obtain ⟨r, wM, wL, hz, hx, hI2⟩ := s_chance uM uL hI (xs (nI (6 * k) + 1).toNatClampNeg) (xs (nI (6 * k) + 2).toNatClampNeg) (xs (nI (6 * k) + 3).toNatClampNeg) (xs (nI (6 * k) + 4).toNatClampNeg)
  have hA : ¬ (fun q => s.heap.size ≤ q) b := Nat.not_le.mpr hbl
  refine mk_aload_n C 1 dL_law_914 rfl ?_
  refine mk_aload_n C 0 dL_law_915 rfl ?_
  refine mk_iload_n C 3 dL_law_916 rfl ?_
  refine mk_iconst C (v := 1) dL_law_917 (by decide) ?_
  refine mk_iadd C dL_law_918 ?_
  refine mk_sld C hX hbl hA (mk_ix hL hk (j := 1) (by decide) rfl) dL_law_919 ?_
  refine mk_aload_n C 0 dL_law_920 rfl ?_
  refine mk_iload_n C 3 dL_law_921 rfl ?_
  refine mk_iconst C (v := 2) dL_law_922 (by decide) ?_
  refine mk_iadd C dL_law_923 ?_
  refine mk_sld C hX hbl hA (mk_ix hL hk (j := 2) (by decide) rfl) dL_law_924 ?_
  refine mk_aload_n C 0 dL_law_925 rfl ?_
  refine mk_iload_n C 3 dL_law_926 rfl ?_
  refine mk_iconst C (v := 3) dL_law_927 (by decide) ?_
  refine mk_iadd C dL_law_928 ?_
  refine mk_sld C hX hbl hA (mk_ix hL hk (j := 3) (by decide) rfl) dL_law_929 ?_
  refine mk_aload_n C 0 dL_law_930 rfl ?_
  refine mk_iload_n C 3 dL_law_931 rfl ?_
  refine mk_iconst C (v := 4) dL_law_932 (by decide) ?_
  refine mk_iadd C dL_law_933 ?_
  refine mk_sld C hX hbl hA (mk_ix hL hk (j := 4) (by decide) rfl) dL_law_934 ?_
  refine mk_callLl C (c_Z_chance l D cI cJ X Y aZ aR aT aD aY aP aS aC aO aA aM uQ uR uT uD uY uP uS uC uO uA uM (xs (nI (6 * k) + 1).toNatClampNeg) (xs (nI (6 * k) + 2).toNatClampNeg) (xs (nI (6 * k) + 3).toNatClampNeg) (xs (nI (6 * k) + 4).toNatClampNeg) r wM hz) mw_830 mw_831 mw_832 mw_1 mw_833 mkn_X8_chance rfl ⟨Nat.le_of_ble_eq_true rfl, Nat.le_of_ble_eq_true rfl⟩ ⟨rfl, rfl⟩ ⟨by show 78 + k + 0 ≤ 600000; omega, by show 15752 + 5 * k + 0 ≤ 7302250; omega⟩ 0 rfl rfl rfl (mk_Fr.first (wChan aZ aR aT aD aY aP aC aO aA aM ++ (wReader aR aT aD uR ++ (wTape aT cI uT ++ (wPlan aD cI uD ++ (wPlay aY aP aS (mk_crs aC aO uQ) cI uY ++ (wPlan aP cI uP ++ (wStack aS cI uS ++ (wCourse aC cI uC ++ (wCourse aO cI uO ++ (wActs aA cI uA ++ (wMeans aM cJ uM))))))))))) (wModel aX cI cJ uX uL) (wChan aZ aR aT aD aY aP aC aO aA aM ++ (wReader aR aT aD uR ++ (wTape aT cI uT ++ (wPlan aD cI uD ++ (wPlay aY aP aS (mk_crs aC aO uQ) cI uY ++ (wPlan aP cI uP ++ (wStack aS cI uS ++ (wCourse aC cI uC ++ (wCourse aO cI uO ++ (wActs aA cI uA ++ (wMeans aM cJ wM)))))))))))) (Nat.le_of_ble_eq_true rfl) dL_law_935 rfl ?_
  refine mk_aload_n C 2 dL_law_938 rfl ?_
  refine mk_aload_n C 0 dL_law_939 rfl ?_
  refine mk_iload_n C 3 dL_law_940 rfl ?_
  refine mk_iconst C (v := 1) dL_law_941 (by decide) ?_
  refine mk_iadd C dL_law_942 ?_
  refine mk_sld C hX hbl hA (mk_ix hL hk (j := 1) (by decide) rfl) dL_law_943 ?_
  refine mk_aload_n C 0 dL_law_944 rfl ?_
  refine mk_iload_n C 3 dL_law_945 rfl ?_
  refine mk_iconst C (v := 2) dL_law_946 (by decide) ?_
  refine mk_iadd C dL_law_947 ?_
  refine mk_sld C hX hbl hA (mk_ix hL hk (j := 2) (by decide) rfl) dL_law_948 ?_
  refine mk_aload_n C 0 dL_law_949 rfl ?_
  refine mk_iload_n C 3 dL_law_950 rfl ?_
  refine mk_iconst C (v := 3) dL_law_951 (by decide) ?_
  refine mk_iadd C dL_law_952 ?_
  refine mk_sld C hX hbl hA (mk_ix hL hk (j := 3) (by decide) rfl) dL_law_953 ?_
  refine mk_aload_n C 0 dL_law_954 rfl ?_
  refine mk_iload_n C 3 dL_law_955 rfl ?_
  refine mk_iconst C (v := 4) dL_law_956 (by decide) ?_
  refine mk_iadd C dL_law_957 ?_
  refine mk_sld C hX hbl hA (mk_ix hL hk (j := 4) (by decide) rfl) dL_law_958 ?_
  refine mk_callLl C (c_X_chance l D cI cJ X Y aX uX uL (xs (nI (6 * k) + 1).toNatClampNeg) (xs (nI (6 * k) + 2).toNatClampNeg) (xs (nI (6 * k) + 3).toNatClampNeg) (xs (nI (6 * k) + 4).toNatClampNeg) r wL hx) mw_1347 mw_1348 mw_1349 mw_10 mw_1350 mkn_X9_chance rfl ⟨Nat.le_of_ble_eq_true rfl, Nat.le_of_ble_eq_true rfl⟩ ⟨rfl, rfl⟩ ⟨by show 78 + k + 0 + 0 ≤ 600000; omega, by show 15752 + 5 * k + 0 + 0 ≤ 7302250; omega⟩ 55 rfl rfl rfl (mk_Fr.last (wChan aZ aR aT aD aY aP aC aO aA aM ++ (wReader aR aT aD uR ++ (wTape aT cI uT ++ (wPlan aD cI uD ++ (wPlay aY aP aS (mk_crs aC aO uQ) cI uY ++ (wPlan aP cI uP ++ (wStack aS cI uS ++ (wCourse aC cI uC ++ (wCourse aO cI uO ++ (wActs aA cI uA ++ (wMeans aM cJ wM))))))))))) (wModel aX cI cJ uX uL) (wModel aX cI cJ uX wL)) (Nat.le_of_ble_eq_true rfl) dL_law_959 rfl ?_
  refine mk_lcmp C dL_law_962 ?_
  refine mk_if_eq C 1116 dL_law_963 (by decide) (fun _ => ?_) (fun h9 => absurd ((lg_cmp_eq r r).mpr rfl) h9)
  exact mk_widen (by omega) (by omega) (K uQ uR uT uD uY uP uS uC uO uA wM uX wL hI2)
set_option maxHeartbeats 40000000 in
set_option maxRecDepth 100000 in
theorem law_case29 {p : Program} {l : Launch} {e : Env} {s : State} {m : MethodId} {below : List Frame} {meth : Method} {c : Code} {D : va_G} {X Y : Nat → Nat} {cI cJ : ClassId} {b L : Nat} {xs : Nat → Int32} {aZ aR aT aD aY aP aS aC aO aA aM aX : Nat → Nat} (hL : L ≤ 3072) (C : mk_Cx p s m #[Value.ref b] c code 4 RL D [(cI, .int), (cJ, .long)] X Y (fun q => s.heap.size ≤ q)) (hX : va_X b L xs s s.heap) (hbl : b < s.heap.size) (hr : meth.sig.returnType = ret) (hlk : meth.locks = false) {k : Nat} (hk : 6 * k + 6 ≤ L) {uQ : Nat} {uR uT uD uY uP uS uC uO uA : Nat → Nat → Int32} {uM : Nat → Nat → Int64} {uX : Nat → Nat → Int32} {uL : Nat → Nat → Int64} (hI : mk_Inv uR uT uD uY uP uS uC uO uA uX) (K : ∀ (uQ : Nat) (uR uT uD uY uP uS uC uO uA : Nat → Nat → Int32) (uM : Nat → Nat → Int64) (uX : Nat → Nat → Int32) (uL : Nat → Nat → Int64), mk_Inv uR uT uD uY uP uS uC uO uA uX → mk_Go p l e room_1 s m #[Value.ref b] below meth c D (fun q => s.heap.size ≤ q) 4 (78 + (k + 1)) (15752 + 5 * (k + 1)) (lw_Z below #[Value.ref b] s) 1116 ((wChan aZ aR aT aD aY aP aC aO aA aM ++ (wReader aR aT aD uR ++ (wTape aT cI uT ++ (wPlan aD cI uD ++ (wPlay aY aP aS (mk_crs aC aO uQ) cI uY ++ (wPlan aP cI uP ++ (wStack aS cI uS ++ (wCourse aC cI uC ++ (wCourse aO cI uO ++ (wActs aA cI uA ++ (wMeans aM cJ uM))))))))))) ++ (wModel aX cI cJ uX uL)) [(0, .ref b), (1, .ref (aZ 0)), (2, .ref (aX 0)), (3, .int (nI (6 * k)))] []) : mk_Go p l e room_1 s m #[Value.ref b] below meth c D (fun q => s.heap.size ≤ q) 4 (78 + k) (15752 + 5 * k) (lw_Z below #[Value.ref b] s) 968 ((wChan aZ aR aT aD aY aP aC aO aA aM ++ (wReader aR aT aD uR ++ (wTape aT cI uT ++ (wPlan aD cI uD ++ (wPlay aY aP aS (mk_crs aC aO uQ) cI uY ++ (wPlan aP cI uP ++ (wStack aS cI uS ++ (wCourse aC cI uC ++ (wCourse aO cI uO ++ (wActs aA cI uA ++ (wMeans aM cJ uM))))))))))) ++ (wModel aX cI cJ uX uL)) [(0, .ref b), (1, .ref (aZ 0)), (2, .ref (aX 0)), (3, .int (nI (6 * k)))] [] := by
  obtain ⟨r, wM, wL, hz, hx, hI2⟩ := s_best uM uL hI (xs (nI (6 * k) + 1).toNatClampNeg)
  have hA : ¬ (fun q => s.heap.size ≤ q) b := Nat.not_le.mpr hbl
  refine mk_aload_n C 1 dL_law_968 rfl ?_
  refine mk_aload_n C 0 dL_law_969 rfl ?_
  refine mk_iload_n C 3 dL_law_970 rfl ?_
  refine mk_iconst C (v := 1) dL_law_971 (by decide) ?_
  refine mk_iadd C dL_law_972 ?_
  refine mk_sld C hX hbl hA (mk_ix hL hk (j := 1) (by decide) rfl) dL_law_973 ?_
  refine mk_callLi C (c_Z_best l D cI cJ X Y aZ aR aT aD aY aP aS aC aO aA aM uQ uR uT uD uY uP uS uC uO uA uM (xs (nI (6 * k) + 1).toNatClampNeg) r wM hz) mw_854 mw_855 mw_856 mw_1 mw_857 mkn_X8_best rfl ⟨Nat.le_of_ble_eq_true rfl, Nat.le_of_ble_eq_true rfl⟩ ⟨rfl, rfl⟩ ⟨by show 78 + k + 0 ≤ 600000; omega, by show 15752 + 5 * k + 0 ≤ 7302250; omega⟩ 0 rfl rfl rfl (mk_Fr.first (wChan aZ aR aT aD aY aP aC aO aA aM ++ (wReader aR aT aD uR ++ (wTape aT cI uT ++ (wPlan aD cI uD ++ (wPlay aY aP aS (mk_crs aC aO uQ) cI uY ++ (wPlan aP cI uP ++ (wStack aS cI uS ++ (wCourse aC cI uC ++ (wCourse aO cI uO ++ (wActs aA cI uA ++ (wMeans aM cJ uM))))))))))) (wModel aX cI cJ uX uL) (wChan aZ aR aT aD aY aP aC aO aA aM ++ (wReader aR aT aD uR ++ (wTape aT cI uT ++ (wPlan aD cI uD ++ (wPlay aY aP aS (mk_crs aC aO uQ) cI uY ++ (wPlan aP cI uP ++ (wStack aS cI uS ++ (wCourse aC cI uC ++ (wCourse aO cI uO ++ (wActs aA cI uA ++ (wMeans aM cJ wM)))))))))))) (Nat.le_of_ble_eq_true rfl) dL_law_974 rfl ?_
  refine mk_aload_n C 2 dL_law_977 rfl ?_
  refine mk_aload_n C 0 dL_law_978 rfl ?_
  refine mk_iload_n C 3 dL_law_979 rfl ?_
  refine mk_iconst C (v := 1) dL_law_980 (by decide) ?_
  refine mk_iadd C dL_law_981 ?_
  refine mk_sld C hX hbl hA (mk_ix hL hk (j := 1) (by decide) rfl) dL_law_982 ?_
  refine mk_callLi C (c_X_best l D cI cJ X Y aX uX uL (xs (nI (6 * k) + 1).toNatClampNeg) r wL hx) mw_1360 mw_1361 mw_1362 mw_10 mw_1363 mkn_X9_best rfl ⟨Nat.le_of_ble_eq_true rfl, Nat.le_of_ble_eq_true rfl⟩ ⟨rfl, rfl⟩ ⟨by show 78 + k + 0 + 0 ≤ 600000; omega, by show 15752 + 5 * k + 0 + 0 ≤ 7302250; omega⟩ 55 rfl rfl rfl (mk_Fr.last (wChan aZ aR aT aD aY aP aC aO aA aM ++ (wReader aR aT aD uR ++ (wTape aT cI uT ++ (wPlan aD cI uD ++ (wPlay aY aP aS (mk_crs aC aO uQ) cI uY ++ (wPlan aP cI uP ++ (wStack aS cI uS ++ (wCourse aC cI uC ++ (wCourse aO cI uO ++ (wActs aA cI uA ++ (wMeans aM cJ wM))))))))))) (wModel aX cI cJ uX uL) (wModel aX cI cJ uX wL)) (Nat.le_of_ble_eq_true rfl) dL_law_983 rfl ?_
  refine mk_icmp_eq C 1116 dL_law_986 (by decide) (fun _ => ?_) (fun h9 => absurd rfl h9)
  exact mk_widen (by omega) (by omega) (K uQ uR uT uD uY uP uS uC uO uA wM uX wL hI2)
set_option maxHeartbeats 40000000 in
set_option maxRecDepth 100000 in
theorem law_case30 {p : Program} {l : Launch} {e : Env} {s : State} {m : MethodId} {below : List Frame} {meth : Method} {c : Code} {D : va_G} {X Y : Nat → Nat} {cI cJ : ClassId} {b L : Nat} {xs : Nat → Int32} {aZ aR aT aD aY aP aS aC aO aA aM aX : Nat → Nat} (hL : L ≤ 3072) (C : mk_Cx p s m #[Value.ref b] c code 4 RL D [(cI, .int), (cJ, .long)] X Y (fun q => s.heap.size ≤ q)) (hX : va_X b L xs s s.heap) (hbl : b < s.heap.size) (hr : meth.sig.returnType = ret) (hlk : meth.locks = false) {k : Nat} (hk : 6 * k + 6 ≤ L) {uQ : Nat} {uR uT uD uY uP uS uC uO uA : Nat → Nat → Int32} {uM : Nat → Nat → Int64} {uX : Nat → Nat → Int32} {uL : Nat → Nat → Int64} (hI : mk_Inv uR uT uD uY uP uS uC uO uA uX) (K : ∀ (uQ : Nat) (uR uT uD uY uP uS uC uO uA : Nat → Nat → Int32) (uM : Nat → Nat → Int64) (uX : Nat → Nat → Int32) (uL : Nat → Nat → Int64), mk_Inv uR uT uD uY uP uS uC uO uA uX → mk_Go p l e room_1 s m #[Value.ref b] below meth c D (fun q => s.heap.size ≤ q) 4 (78 + (k + 1)) (15752 + 5 * (k + 1)) (lw_Z below #[Value.ref b] s) 1116 ((wChan aZ aR aT aD aY aP aC aO aA aM ++ (wReader aR aT aD uR ++ (wTape aT cI uT ++ (wPlan aD cI uD ++ (wPlay aY aP aS (mk_crs aC aO uQ) cI uY ++ (wPlan aP cI uP ++ (wStack aS cI uS ++ (wCourse aC cI uC ++ (wCourse aO cI uO ++ (wActs aA cI uA ++ (wMeans aM cJ uM))))))))))) ++ (wModel aX cI cJ uX uL)) [(0, .ref b), (1, .ref (aZ 0)), (2, .ref (aX 0)), (3, .int (nI (6 * k)))] []) : mk_Go p l e room_1 s m #[Value.ref b] below meth c D (fun q => s.heap.size ≤ q) 4 (78 + k) (15752 + 5 * k) (lw_Z below #[Value.ref b] s) 991 ((wChan aZ aR aT aD aY aP aC aO aA aM ++ (wReader aR aT aD uR ++ (wTape aT cI uT ++ (wPlan aD cI uD ++ (wPlay aY aP aS (mk_crs aC aO uQ) cI uY ++ (wPlan aP cI uP ++ (wStack aS cI uS ++ (wCourse aC cI uC ++ (wCourse aO cI uO ++ (wActs aA cI uA ++ (wMeans aM cJ uM))))))))))) ++ (wModel aX cI cJ uX uL)) [(0, .ref b), (1, .ref (aZ 0)), (2, .ref (aX 0)), (3, .int (nI (6 * k)))] [] := by
  obtain ⟨r, wQ, wY, wP, wS, wC, wA, wX, hz, hx, hI2⟩ := s_add uQ hI (xs (nI (6 * k) + 1).toNatClampNeg) (xs (nI (6 * k) + 2).toNatClampNeg) (xs (nI (6 * k) + 3).toNatClampNeg)
  have hA : ¬ (fun q => s.heap.size ≤ q) b := Nat.not_le.mpr hbl
  refine mk_aload_n C 1 dL_law_991 rfl ?_
  refine mk_aload_n C 0 dL_law_992 rfl ?_
  refine mk_iload_n C 3 dL_law_993 rfl ?_
  refine mk_iconst C (v := 1) dL_law_994 (by decide) ?_
  refine mk_iadd C dL_law_995 ?_
  refine mk_sld C hX hbl hA (mk_ix hL hk (j := 1) (by decide) rfl) dL_law_996 ?_
  refine mk_aload_n C 0 dL_law_997 rfl ?_
  refine mk_iload_n C 3 dL_law_998 rfl ?_
  refine mk_iconst C (v := 2) dL_law_999 (by decide) ?_
  refine mk_iadd C dL_law_1000 ?_
  refine mk_sld C hX hbl hA (mk_ix hL hk (j := 2) (by decide) rfl) dL_law_1001 ?_
  refine mk_aload_n C 0 dL_law_1002 rfl ?_
  refine mk_iload_n C 3 dL_law_1003 rfl ?_
  refine mk_iconst C (v := 3) dL_law_1004 (by decide) ?_
  refine mk_iadd C dL_law_1005 ?_
  refine mk_sld C hX hbl hA (mk_ix hL hk (j := 3) (by decide) rfl) dL_law_1006 ?_
  refine mk_callLi C (c_Z_add l D cI cJ X Y aZ aR aT aD aY aP aS aC aO aA aM uQ uR uT uD uY uP uS uC uO uA uM (xs (nI (6 * k) + 1).toNatClampNeg) (xs (nI (6 * k) + 2).toNatClampNeg) (xs (nI (6 * k) + 3).toNatClampNeg) r wQ wY wP wS wC wA hz) mw_863 mw_864 mw_865 mw_1 mw_866 mkn_X8_add rfl ⟨Nat.le_of_ble_eq_true rfl, Nat.le_of_ble_eq_true rfl⟩ ⟨rfl, rfl⟩ ⟨by show 78 + k + 0 ≤ 600000; omega, by show 15752 + 5 * k + 0 ≤ 7302250; omega⟩ 0 rfl rfl rfl (mk_Fr.first (wChan aZ aR aT aD aY aP aC aO aA aM ++ (wReader aR aT aD uR ++ (wTape aT cI uT ++ (wPlan aD cI uD ++ (wPlay aY aP aS (mk_crs aC aO uQ) cI uY ++ (wPlan aP cI uP ++ (wStack aS cI uS ++ (wCourse aC cI uC ++ (wCourse aO cI uO ++ (wActs aA cI uA ++ (wMeans aM cJ uM))))))))))) (wModel aX cI cJ uX uL) (wChan aZ aR aT aD aY aP aC aO aA aM ++ (wReader aR aT aD uR ++ (wTape aT cI uT ++ (wPlan aD cI uD ++ (wPlay aY aP aS (mk_crs aC aO wQ) cI wY ++ (wPlan aP cI wP ++ (wStack aS cI wS ++ (wCourse aC cI wC ++ (wCourse aO cI uO ++ (wActs aA cI wA ++ (wMeans aM cJ uM)))))))))))) (Nat.le_of_ble_eq_true rfl) dL_law_1007 rfl ?_
  refine mk_aload_n C 2 dL_law_1010 rfl ?_
  refine mk_aload_n C 0 dL_law_1011 rfl ?_
  refine mk_iload_n C 3 dL_law_1012 rfl ?_
  refine mk_iconst C (v := 1) dL_law_1013 (by decide) ?_
  refine mk_iadd C dL_law_1014 ?_
  refine mk_sld C hX hbl hA (mk_ix hL hk (j := 1) (by decide) rfl) dL_law_1015 ?_
  refine mk_aload_n C 0 dL_law_1016 rfl ?_
  refine mk_iload_n C 3 dL_law_1017 rfl ?_
  refine mk_iconst C (v := 2) dL_law_1018 (by decide) ?_
  refine mk_iadd C dL_law_1019 ?_
  refine mk_sld C hX hbl hA (mk_ix hL hk (j := 2) (by decide) rfl) dL_law_1020 ?_
  refine mk_aload_n C 0 dL_law_1021 rfl ?_
  refine mk_iload_n C 3 dL_law_1022 rfl ?_
  refine mk_iconst C (v := 3) dL_law_1023 (by decide) ?_
  refine mk_iadd C dL_law_1024 ?_
  refine mk_sld C hX hbl hA (mk_ix hL hk (j := 3) (by decide) rfl) dL_law_1025 ?_
  refine mk_callLi C (c_X_add l D cI cJ X Y aX uX uL (xs (nI (6 * k) + 1).toNatClampNeg) (xs (nI (6 * k) + 2).toNatClampNeg) (xs (nI (6 * k) + 3).toNatClampNeg) r wX hx) mw_1364 mw_1365 mw_1366 mw_10 mw_1367 mkn_X9_add rfl ⟨Nat.le_of_ble_eq_true rfl, Nat.le_of_ble_eq_true rfl⟩ ⟨rfl, rfl⟩ ⟨by show 78 + k + 0 + 0 ≤ 600000; omega, by show 15752 + 5 * k + 0 + 0 ≤ 7302250; omega⟩ 55 rfl rfl rfl (mk_Fr.last (wChan aZ aR aT aD aY aP aC aO aA aM ++ (wReader aR aT aD uR ++ (wTape aT cI uT ++ (wPlan aD cI uD ++ (wPlay aY aP aS (mk_crs aC aO wQ) cI wY ++ (wPlan aP cI wP ++ (wStack aS cI wS ++ (wCourse aC cI wC ++ (wCourse aO cI uO ++ (wActs aA cI wA ++ (wMeans aM cJ uM))))))))))) (wModel aX cI cJ uX uL) (wModel aX cI cJ wX uL)) (Nat.le_of_ble_eq_true rfl) dL_law_1026 rfl ?_
  refine mk_icmp_eq C 1116 dL_law_1029 (by decide) (fun _ => ?_) (fun h9 => absurd rfl h9)
  exact mk_widen (by omega) (by omega) (K wQ uR uT uD wY wP wS wC uO wA uM wX uL hI2)
set_option maxHeartbeats 40000000 in
set_option maxRecDepth 100000 in
theorem law_case31 {p : Program} {l : Launch} {e : Env} {s : State} {m : MethodId} {below : List Frame} {meth : Method} {c : Code} {D : va_G} {X Y : Nat → Nat} {cI cJ : ClassId} {b L : Nat} {xs : Nat → Int32} {aZ aR aT aD aY aP aS aC aO aA aM aX : Nat → Nat} (hL : L ≤ 3072) (C : mk_Cx p s m #[Value.ref b] c code 4 RL D [(cI, .int), (cJ, .long)] X Y (fun q => s.heap.size ≤ q)) (hX : va_X b L xs s s.heap) (hbl : b < s.heap.size) (hr : meth.sig.returnType = ret) (hlk : meth.locks = false) {k : Nat} (hk : 6 * k + 6 ≤ L) {uQ : Nat} {uR uT uD uY uP uS uC uO uA : Nat → Nat → Int32} {uM : Nat → Nat → Int64} {uX : Nat → Nat → Int32} {uL : Nat → Nat → Int64} (hI : mk_Inv uR uT uD uY uP uS uC uO uA uX) (K : ∀ (uQ : Nat) (uR uT uD uY uP uS uC uO uA : Nat → Nat → Int32) (uM : Nat → Nat → Int64) (uX : Nat → Nat → Int32) (uL : Nat → Nat → Int64), mk_Inv uR uT uD uY uP uS uC uO uA uX → mk_Go p l e room_1 s m #[Value.ref b] below meth c D (fun q => s.heap.size ≤ q) 4 (78 + (k + 1)) (15752 + 5 * (k + 1)) (lw_Z below #[Value.ref b] s) 1116 ((wChan aZ aR aT aD aY aP aC aO aA aM ++ (wReader aR aT aD uR ++ (wTape aT cI uT ++ (wPlan aD cI uD ++ (wPlay aY aP aS (mk_crs aC aO uQ) cI uY ++ (wPlan aP cI uP ++ (wStack aS cI uS ++ (wCourse aC cI uC ++ (wCourse aO cI uO ++ (wActs aA cI uA ++ (wMeans aM cJ uM))))))))))) ++ (wModel aX cI cJ uX uL)) [(0, .ref b), (1, .ref (aZ 0)), (2, .ref (aX 0)), (3, .int (nI (6 * k)))] []) : mk_Go p l e room_1 s m #[Value.ref b] below meth c D (fun q => s.heap.size ≤ q) 4 (78 + k) (15752 + 5 * k) (lw_Z below #[Value.ref b] s) 1034 ((wChan aZ aR aT aD aY aP aC aO aA aM ++ (wReader aR aT aD uR ++ (wTape aT cI uT ++ (wPlan aD cI uD ++ (wPlay aY aP aS (mk_crs aC aO uQ) cI uY ++ (wPlan aP cI uP ++ (wStack aS cI uS ++ (wCourse aC cI uC ++ (wCourse aO cI uO ++ (wActs aA cI uA ++ (wMeans aM cJ uM))))))))))) ++ (wModel aX cI cJ uX uL)) [(0, .ref b), (1, .ref (aZ 0)), (2, .ref (aX 0)), (3, .int (nI (6 * k)))] [] := by
  obtain ⟨r, wQ, wY, wP, wS, wC, wA, wX, hz, hx, hI2⟩ := s_disturb uQ hI (xs (nI (6 * k) + 1).toNatClampNeg) (xs (nI (6 * k) + 2).toNatClampNeg)
  have hA : ¬ (fun q => s.heap.size ≤ q) b := Nat.not_le.mpr hbl
  refine mk_aload_n C 1 dL_law_1034 rfl ?_
  refine mk_aload_n C 0 dL_law_1035 rfl ?_
  refine mk_iload_n C 3 dL_law_1036 rfl ?_
  refine mk_iconst C (v := 1) dL_law_1037 (by decide) ?_
  refine mk_iadd C dL_law_1038 ?_
  refine mk_sld C hX hbl hA (mk_ix hL hk (j := 1) (by decide) rfl) dL_law_1039 ?_
  refine mk_aload_n C 0 dL_law_1040 rfl ?_
  refine mk_iload_n C 3 dL_law_1041 rfl ?_
  refine mk_iconst C (v := 2) dL_law_1042 (by decide) ?_
  refine mk_iadd C dL_law_1043 ?_
  refine mk_sld C hX hbl hA (mk_ix hL hk (j := 2) (by decide) rfl) dL_law_1044 ?_
  refine mk_callLi C (c_Z_disturb l D cI cJ X Y aZ aR aT aD aY aP aS aC aO aA aM uQ uR uT uD uY uP uS uC uO uA uM (xs (nI (6 * k) + 1).toNatClampNeg) (xs (nI (6 * k) + 2).toNatClampNeg) r wQ wY wP wS wC wA hz) mw_873 mw_874 mw_875 mw_1 mw_876 mkn_X8_disturb rfl ⟨Nat.le_of_ble_eq_true rfl, Nat.le_of_ble_eq_true rfl⟩ ⟨rfl, rfl⟩ ⟨by show 78 + k + 0 ≤ 600000; omega, by show 15752 + 5 * k + 0 ≤ 7302250; omega⟩ 0 rfl rfl rfl (mk_Fr.first (wChan aZ aR aT aD aY aP aC aO aA aM ++ (wReader aR aT aD uR ++ (wTape aT cI uT ++ (wPlan aD cI uD ++ (wPlay aY aP aS (mk_crs aC aO uQ) cI uY ++ (wPlan aP cI uP ++ (wStack aS cI uS ++ (wCourse aC cI uC ++ (wCourse aO cI uO ++ (wActs aA cI uA ++ (wMeans aM cJ uM))))))))))) (wModel aX cI cJ uX uL) (wChan aZ aR aT aD aY aP aC aO aA aM ++ (wReader aR aT aD uR ++ (wTape aT cI uT ++ (wPlan aD cI uD ++ (wPlay aY aP aS (mk_crs aC aO wQ) cI wY ++ (wPlan aP cI wP ++ (wStack aS cI wS ++ (wCourse aC cI wC ++ (wCourse aO cI uO ++ (wActs aA cI wA ++ (wMeans aM cJ uM)))))))))))) (Nat.le_of_ble_eq_true rfl) dL_law_1045 rfl ?_
  refine mk_aload_n C 2 dL_law_1048 rfl ?_
  refine mk_aload_n C 0 dL_law_1049 rfl ?_
  refine mk_iload_n C 3 dL_law_1050 rfl ?_
  refine mk_iconst C (v := 1) dL_law_1051 (by decide) ?_
  refine mk_iadd C dL_law_1052 ?_
  refine mk_sld C hX hbl hA (mk_ix hL hk (j := 1) (by decide) rfl) dL_law_1053 ?_
  refine mk_aload_n C 0 dL_law_1054 rfl ?_
  refine mk_iload_n C 3 dL_law_1055 rfl ?_
  refine mk_iconst C (v := 2) dL_law_1056 (by decide) ?_
  refine mk_iadd C dL_law_1057 ?_
  refine mk_sld C hX hbl hA (mk_ix hL hk (j := 2) (by decide) rfl) dL_law_1058 ?_
  refine mk_callLi C (c_X_disturb l D cI cJ X Y aX uX uL (xs (nI (6 * k) + 1).toNatClampNeg) (xs (nI (6 * k) + 2).toNatClampNeg) r wX hx) mw_1377 mw_1378 mw_1379 mw_10 mw_1380 mkn_X9_disturb rfl ⟨Nat.le_of_ble_eq_true rfl, Nat.le_of_ble_eq_true rfl⟩ ⟨rfl, rfl⟩ ⟨by show 78 + k + 0 + 0 ≤ 600000; omega, by show 15752 + 5 * k + 0 + 0 ≤ 7302250; omega⟩ 55 rfl rfl rfl (mk_Fr.last (wChan aZ aR aT aD aY aP aC aO aA aM ++ (wReader aR aT aD uR ++ (wTape aT cI uT ++ (wPlan aD cI uD ++ (wPlay aY aP aS (mk_crs aC aO wQ) cI wY ++ (wPlan aP cI wP ++ (wStack aS cI wS ++ (wCourse aC cI wC ++ (wCourse aO cI uO ++ (wActs aA cI wA ++ (wMeans aM cJ uM))))))))))) (wModel aX cI cJ uX uL) (wModel aX cI cJ wX uL)) (Nat.le_of_ble_eq_true rfl) dL_law_1059 rfl ?_
  refine mk_icmp_eq C 1116 dL_law_1062 (by decide) (fun _ => ?_) (fun h9 => absurd rfl h9)
  exact mk_widen (by omega) (by omega) (K wQ uR uT uD wY wP wS wC uO wA uM wX uL hI2)
set_option maxHeartbeats 40000000 in
set_option maxRecDepth 100000 in
theorem law_case32 {p : Program} {l : Launch} {e : Env} {s : State} {m : MethodId} {below : List Frame} {meth : Method} {c : Code} {D : va_G} {X Y : Nat → Nat} {cI cJ : ClassId} {b L : Nat} {xs : Nat → Int32} {aZ aR aT aD aY aP aS aC aO aA aM aX : Nat → Nat} (hL : L ≤ 3072) (C : mk_Cx p s m #[Value.ref b] c code 4 RL D [(cI, .int), (cJ, .long)] X Y (fun q => s.heap.size ≤ q)) (hX : va_X b L xs s s.heap) (hbl : b < s.heap.size) (hr : meth.sig.returnType = ret) (hlk : meth.locks = false) {k : Nat} (hk : 6 * k + 6 ≤ L) {uQ : Nat} {uR uT uD uY uP uS uC uO uA : Nat → Nat → Int32} {uM : Nat → Nat → Int64} {uX : Nat → Nat → Int32} {uL : Nat → Nat → Int64} (hI : mk_Inv uR uT uD uY uP uS uC uO uA uX) (K : ∀ (uQ : Nat) (uR uT uD uY uP uS uC uO uA : Nat → Nat → Int32) (uM : Nat → Nat → Int64) (uX : Nat → Nat → Int32) (uL : Nat → Nat → Int64), mk_Inv uR uT uD uY uP uS uC uO uA uX → mk_Go p l e room_1 s m #[Value.ref b] below meth c D (fun q => s.heap.size ≤ q) 4 (78 + (k + 1)) (15752 + 5 * (k + 1)) (lw_Z below #[Value.ref b] s) 1116 ((wChan aZ aR aT aD aY aP aC aO aA aM ++ (wReader aR aT aD uR ++ (wTape aT cI uT ++ (wPlan aD cI uD ++ (wPlay aY aP aS (mk_crs aC aO uQ) cI uY ++ (wPlan aP cI uP ++ (wStack aS cI uS ++ (wCourse aC cI uC ++ (wCourse aO cI uO ++ (wActs aA cI uA ++ (wMeans aM cJ uM))))))))))) ++ (wModel aX cI cJ uX uL)) [(0, .ref b), (1, .ref (aZ 0)), (2, .ref (aX 0)), (3, .int (nI (6 * k)))] []) : mk_Go p l e room_1 s m #[Value.ref b] below meth c D (fun q => s.heap.size ≤ q) 4 (78 + k) (15752 + 5 * k) (lw_Z below #[Value.ref b] s) 1067 ((wChan aZ aR aT aD aY aP aC aO aA aM ++ (wReader aR aT aD uR ++ (wTape aT cI uT ++ (wPlan aD cI uD ++ (wPlay aY aP aS (mk_crs aC aO uQ) cI uY ++ (wPlan aP cI uP ++ (wStack aS cI uS ++ (wCourse aC cI uC ++ (wCourse aO cI uO ++ (wActs aA cI uA ++ (wMeans aM cJ uM))))))))))) ++ (wModel aX cI cJ uX uL)) [(0, .ref b), (1, .ref (aZ 0)), (2, .ref (aX 0)), (3, .int (nI (6 * k)))] [] := by
  obtain ⟨r, wQ, wY, wP, wS, wC, wA, wX, hz, hx, hI2⟩ := s_rule uQ hI (xs (nI (6 * k) + 1).toNatClampNeg)
  have hA : ¬ (fun q => s.heap.size ≤ q) b := Nat.not_le.mpr hbl
  refine mk_aload_n C 1 dL_law_1067 rfl ?_
  refine mk_aload_n C 0 dL_law_1068 rfl ?_
  refine mk_iload_n C 3 dL_law_1069 rfl ?_
  refine mk_iconst C (v := 1) dL_law_1070 (by decide) ?_
  refine mk_iadd C dL_law_1071 ?_
  refine mk_sld C hX hbl hA (mk_ix hL hk (j := 1) (by decide) rfl) dL_law_1072 ?_
  refine mk_callLi C (c_Z_rule l D cI cJ X Y aZ aR aT aD aY aP aS aC aO aA aM uQ uR uT uD uY uP uS uC uO uA uM (xs (nI (6 * k) + 1).toNatClampNeg) r wQ wY wP wS wC wA hz) mw_879 mw_880 mw_881 mw_1 mw_882 mkn_X8_rule rfl ⟨Nat.le_of_ble_eq_true rfl, Nat.le_of_ble_eq_true rfl⟩ ⟨rfl, rfl⟩ ⟨by show 78 + k + 0 ≤ 600000; omega, by show 15752 + 5 * k + 0 ≤ 7302250; omega⟩ 0 rfl rfl rfl (mk_Fr.first (wChan aZ aR aT aD aY aP aC aO aA aM ++ (wReader aR aT aD uR ++ (wTape aT cI uT ++ (wPlan aD cI uD ++ (wPlay aY aP aS (mk_crs aC aO uQ) cI uY ++ (wPlan aP cI uP ++ (wStack aS cI uS ++ (wCourse aC cI uC ++ (wCourse aO cI uO ++ (wActs aA cI uA ++ (wMeans aM cJ uM))))))))))) (wModel aX cI cJ uX uL) (wChan aZ aR aT aD aY aP aC aO aA aM ++ (wReader aR aT aD uR ++ (wTape aT cI uT ++ (wPlan aD cI uD ++ (wPlay aY aP aS (mk_crs aC aO wQ) cI wY ++ (wPlan aP cI wP ++ (wStack aS cI wS ++ (wCourse aC cI wC ++ (wCourse aO cI uO ++ (wActs aA cI wA ++ (wMeans aM cJ uM)))))))))))) (Nat.le_of_ble_eq_true rfl) dL_law_1073 rfl ?_
  refine mk_aload_n C 2 dL_law_1076 rfl ?_
  refine mk_aload_n C 0 dL_law_1077 rfl ?_
  refine mk_iload_n C 3 dL_law_1078 rfl ?_
  refine mk_iconst C (v := 1) dL_law_1079 (by decide) ?_
  refine mk_iadd C dL_law_1080 ?_
  refine mk_sld C hX hbl hA (mk_ix hL hk (j := 1) (by decide) rfl) dL_law_1081 ?_
  refine mk_callLi C (c_X_rule l D cI cJ X Y aX uX uL (xs (nI (6 * k) + 1).toNatClampNeg) r wX hx) mw_1381 mw_1382 mw_1383 mw_10 mw_1384 mkn_X9_rule rfl ⟨Nat.le_of_ble_eq_true rfl, Nat.le_of_ble_eq_true rfl⟩ ⟨rfl, rfl⟩ ⟨by show 78 + k + 0 + 0 ≤ 600000; omega, by show 15752 + 5 * k + 0 + 0 ≤ 7302250; omega⟩ 55 rfl rfl rfl (mk_Fr.last (wChan aZ aR aT aD aY aP aC aO aA aM ++ (wReader aR aT aD uR ++ (wTape aT cI uT ++ (wPlan aD cI uD ++ (wPlay aY aP aS (mk_crs aC aO wQ) cI wY ++ (wPlan aP cI wP ++ (wStack aS cI wS ++ (wCourse aC cI wC ++ (wCourse aO cI uO ++ (wActs aA cI wA ++ (wMeans aM cJ uM))))))))))) (wModel aX cI cJ uX uL) (wModel aX cI cJ wX uL)) (Nat.le_of_ble_eq_true rfl) dL_law_1082 rfl ?_
  refine mk_icmp_eq C 1116 dL_law_1085 (by decide) (fun _ => ?_) (fun h9 => absurd rfl h9)
  exact mk_widen (by omega) (by omega) (K wQ uR uT uD wY wP wS wC uO wA uM wX uL hI2)
set_option maxHeartbeats 40000000 in
set_option maxRecDepth 100000 in
theorem law_case33 {p : Program} {l : Launch} {e : Env} {s : State} {m : MethodId} {below : List Frame} {meth : Method} {c : Code} {D : va_G} {X Y : Nat → Nat} {cI cJ : ClassId} {b L : Nat} {xs : Nat → Int32} {aZ aR aT aD aY aP aS aC aO aA aM aX : Nat → Nat} (hL : L ≤ 3072) (C : mk_Cx p s m #[Value.ref b] c code 4 RL D [(cI, .int), (cJ, .long)] X Y (fun q => s.heap.size ≤ q)) (hX : va_X b L xs s s.heap) (hbl : b < s.heap.size) (hr : meth.sig.returnType = ret) (hlk : meth.locks = false) {k : Nat} (hk : 6 * k + 6 ≤ L) {uQ : Nat} {uR uT uD uY uP uS uC uO uA : Nat → Nat → Int32} {uM : Nat → Nat → Int64} {uX : Nat → Nat → Int32} {uL : Nat → Nat → Int64} (hI : mk_Inv uR uT uD uY uP uS uC uO uA uX) (K : ∀ (uQ : Nat) (uR uT uD uY uP uS uC uO uA : Nat → Nat → Int32) (uM : Nat → Nat → Int64) (uX : Nat → Nat → Int32) (uL : Nat → Nat → Int64), mk_Inv uR uT uD uY uP uS uC uO uA uX → mk_Go p l e room_1 s m #[Value.ref b] below meth c D (fun q => s.heap.size ≤ q) 4 (78 + (k + 1)) (15752 + 5 * (k + 1)) (lw_Z below #[Value.ref b] s) 1116 ((wChan aZ aR aT aD aY aP aC aO aA aM ++ (wReader aR aT aD uR ++ (wTape aT cI uT ++ (wPlan aD cI uD ++ (wPlay aY aP aS (mk_crs aC aO uQ) cI uY ++ (wPlan aP cI uP ++ (wStack aS cI uS ++ (wCourse aC cI uC ++ (wCourse aO cI uO ++ (wActs aA cI uA ++ (wMeans aM cJ uM))))))))))) ++ (wModel aX cI cJ uX uL)) [(0, .ref b), (1, .ref (aZ 0)), (2, .ref (aX 0)), (3, .int (nI (6 * k)))] []) : mk_Go p l e room_1 s m #[Value.ref b] below meth c D (fun q => s.heap.size ≤ q) 4 (78 + k) (15752 + 5 * k) (lw_Z below #[Value.ref b] s) 1090 ((wChan aZ aR aT aD aY aP aC aO aA aM ++ (wReader aR aT aD uR ++ (wTape aT cI uT ++ (wPlan aD cI uD ++ (wPlay aY aP aS (mk_crs aC aO uQ) cI uY ++ (wPlan aP cI uP ++ (wStack aS cI uS ++ (wCourse aC cI uC ++ (wCourse aO cI uO ++ (wActs aA cI uA ++ (wMeans aM cJ uM))))))))))) ++ (wModel aX cI cJ uX uL)) [(0, .ref b), (1, .ref (aZ 0)), (2, .ref (aX 0)), (3, .int (nI (6 * k)))] [] := by
  obtain ⟨r, wQ, wY, wP, wS, wC, wA, wX, hz, hx, hI2⟩ := s_undo uQ hI 
  have hA : ¬ (fun q => s.heap.size ≤ q) b := Nat.not_le.mpr hbl
  refine mk_aload_n C 1 dL_law_1090 rfl ?_
  refine mk_callLi C (c_Z_undo l D cI cJ X Y aZ aR aT aD aY aP aS aC aO aA aM uQ uR uT uD uY uP uS uC uO uA uM r wQ wY wP wS wC wA hz) mw_883 mw_884 mw_885 mw_1 mw_886 mkn_X8_undo rfl ⟨Nat.le_of_ble_eq_true rfl, Nat.le_of_ble_eq_true rfl⟩ ⟨rfl, rfl⟩ ⟨by show 78 + k + 0 ≤ 600000; omega, by show 15752 + 5 * k + 0 ≤ 7302250; omega⟩ 0 rfl rfl rfl (mk_Fr.first (wChan aZ aR aT aD aY aP aC aO aA aM ++ (wReader aR aT aD uR ++ (wTape aT cI uT ++ (wPlan aD cI uD ++ (wPlay aY aP aS (mk_crs aC aO uQ) cI uY ++ (wPlan aP cI uP ++ (wStack aS cI uS ++ (wCourse aC cI uC ++ (wCourse aO cI uO ++ (wActs aA cI uA ++ (wMeans aM cJ uM))))))))))) (wModel aX cI cJ uX uL) (wChan aZ aR aT aD aY aP aC aO aA aM ++ (wReader aR aT aD uR ++ (wTape aT cI uT ++ (wPlan aD cI uD ++ (wPlay aY aP aS (mk_crs aC aO wQ) cI wY ++ (wPlan aP cI wP ++ (wStack aS cI wS ++ (wCourse aC cI wC ++ (wCourse aO cI uO ++ (wActs aA cI wA ++ (wMeans aM cJ uM)))))))))))) (Nat.le_of_ble_eq_true rfl) dL_law_1091 rfl ?_
  refine mk_aload_n C 2 dL_law_1094 rfl ?_
  refine mk_callLi C (c_X_undo l D cI cJ X Y aX uX uL r wX hx) mw_1385 mw_1386 mw_1387 mw_10 mw_1388 mkn_X9_undo rfl ⟨Nat.le_of_ble_eq_true rfl, Nat.le_of_ble_eq_true rfl⟩ ⟨rfl, rfl⟩ ⟨by show 78 + k + 0 + 0 ≤ 600000; omega, by show 15752 + 5 * k + 0 + 0 ≤ 7302250; omega⟩ 55 rfl rfl rfl (mk_Fr.last (wChan aZ aR aT aD aY aP aC aO aA aM ++ (wReader aR aT aD uR ++ (wTape aT cI uT ++ (wPlan aD cI uD ++ (wPlay aY aP aS (mk_crs aC aO wQ) cI wY ++ (wPlan aP cI wP ++ (wStack aS cI wS ++ (wCourse aC cI wC ++ (wCourse aO cI uO ++ (wActs aA cI wA ++ (wMeans aM cJ uM))))))))))) (wModel aX cI cJ uX uL) (wModel aX cI cJ wX uL)) (Nat.le_of_ble_eq_true rfl) dL_law_1095 rfl ?_
  refine mk_icmp_eq C 1116 dL_law_1098 (by decide) (fun _ => ?_) (fun h9 => absurd rfl h9)
  exact mk_widen (by omega) (by omega) (K wQ uR uT uD wY wP wS wC uO wA uM wX uL hI2)
set_option maxHeartbeats 40000000 in
set_option maxRecDepth 100000 in
theorem law_case34 {p : Program} {l : Launch} {e : Env} {s : State} {m : MethodId} {below : List Frame} {meth : Method} {c : Code} {D : va_G} {X Y : Nat → Nat} {cI cJ : ClassId} {b L : Nat} {xs : Nat → Int32} {aZ aR aT aD aY aP aS aC aO aA aM aX : Nat → Nat} (hL : L ≤ 3072) (C : mk_Cx p s m #[Value.ref b] c code 4 RL D [(cI, .int), (cJ, .long)] X Y (fun q => s.heap.size ≤ q)) (hX : va_X b L xs s s.heap) (hbl : b < s.heap.size) (hr : meth.sig.returnType = ret) (hlk : meth.locks = false) {k : Nat} (hk : 6 * k + 6 ≤ L) {uQ : Nat} {uR uT uD uY uP uS uC uO uA : Nat → Nat → Int32} {uM : Nat → Nat → Int64} {uX : Nat → Nat → Int32} {uL : Nat → Nat → Int64} (hI : mk_Inv uR uT uD uY uP uS uC uO uA uX) (K : ∀ (uQ : Nat) (uR uT uD uY uP uS uC uO uA : Nat → Nat → Int32) (uM : Nat → Nat → Int64) (uX : Nat → Nat → Int32) (uL : Nat → Nat → Int64), mk_Inv uR uT uD uY uP uS uC uO uA uX → mk_Go p l e room_1 s m #[Value.ref b] below meth c D (fun q => s.heap.size ≤ q) 4 (78 + (k + 1)) (15752 + 5 * (k + 1)) (lw_Z below #[Value.ref b] s) 1116 ((wChan aZ aR aT aD aY aP aC aO aA aM ++ (wReader aR aT aD uR ++ (wTape aT cI uT ++ (wPlan aD cI uD ++ (wPlay aY aP aS (mk_crs aC aO uQ) cI uY ++ (wPlan aP cI uP ++ (wStack aS cI uS ++ (wCourse aC cI uC ++ (wCourse aO cI uO ++ (wActs aA cI uA ++ (wMeans aM cJ uM))))))))))) ++ (wModel aX cI cJ uX uL)) [(0, .ref b), (1, .ref (aZ 0)), (2, .ref (aX 0)), (3, .int (nI (6 * k)))] []) : mk_Go p l e room_1 s m #[Value.ref b] below meth c D (fun q => s.heap.size ≤ q) 4 (78 + k) (15752 + 5 * k) (lw_Z below #[Value.ref b] s) 1103 ((wChan aZ aR aT aD aY aP aC aO aA aM ++ (wReader aR aT aD uR ++ (wTape aT cI uT ++ (wPlan aD cI uD ++ (wPlay aY aP aS (mk_crs aC aO uQ) cI uY ++ (wPlan aP cI uP ++ (wStack aS cI uS ++ (wCourse aC cI uC ++ (wCourse aO cI uO ++ (wActs aA cI uA ++ (wMeans aM cJ uM))))))))))) ++ (wModel aX cI cJ uX uL)) [(0, .ref b), (1, .ref (aZ 0)), (2, .ref (aX 0)), (3, .int (nI (6 * k)))] [] := by
  obtain ⟨r, wQ, wY, wP, wS, wC, wA, wX, hz, hx, hI2⟩ := s_anew uQ hI 
  have hA : ¬ (fun q => s.heap.size ≤ q) b := Nat.not_le.mpr hbl
  refine mk_aload_n C 1 dL_law_1103 rfl ?_
  refine mk_callLi C (c_Z_anew l D cI cJ X Y aZ aR aT aD aY aP aS aC aO aA aM uQ uR uT uD uY uP uS uC uO uA uM r wQ wY wP wS wC wA hz) mw_892 mw_893 mw_894 mw_1 mw_895 mkn_X8_anew rfl ⟨Nat.le_of_ble_eq_true rfl, Nat.le_of_ble_eq_true rfl⟩ ⟨rfl, rfl⟩ ⟨by show 78 + k + 0 ≤ 600000; omega, by show 15752 + 5 * k + 0 ≤ 7302250; omega⟩ 0 rfl rfl rfl (mk_Fr.first (wChan aZ aR aT aD aY aP aC aO aA aM ++ (wReader aR aT aD uR ++ (wTape aT cI uT ++ (wPlan aD cI uD ++ (wPlay aY aP aS (mk_crs aC aO uQ) cI uY ++ (wPlan aP cI uP ++ (wStack aS cI uS ++ (wCourse aC cI uC ++ (wCourse aO cI uO ++ (wActs aA cI uA ++ (wMeans aM cJ uM))))))))))) (wModel aX cI cJ uX uL) (wChan aZ aR aT aD aY aP aC aO aA aM ++ (wReader aR aT aD uR ++ (wTape aT cI uT ++ (wPlan aD cI uD ++ (wPlay aY aP aS (mk_crs aC aO wQ) cI wY ++ (wPlan aP cI wP ++ (wStack aS cI wS ++ (wCourse aC cI wC ++ (wCourse aO cI uO ++ (wActs aA cI wA ++ (wMeans aM cJ uM)))))))))))) (Nat.le_of_ble_eq_true rfl) dL_law_1104 rfl ?_
  refine mk_aload_n C 2 dL_law_1107 rfl ?_
  refine mk_callLi C (c_X_anew l D cI cJ X Y aX uX uL r wX hx) mw_1393 mw_1394 mw_1395 mw_10 mw_1396 mkn_X9_anew rfl ⟨Nat.le_of_ble_eq_true rfl, Nat.le_of_ble_eq_true rfl⟩ ⟨rfl, rfl⟩ ⟨by show 78 + k + 0 + 0 ≤ 600000; omega, by show 15752 + 5 * k + 0 + 0 ≤ 7302250; omega⟩ 55 rfl rfl rfl (mk_Fr.last (wChan aZ aR aT aD aY aP aC aO aA aM ++ (wReader aR aT aD uR ++ (wTape aT cI uT ++ (wPlan aD cI uD ++ (wPlay aY aP aS (mk_crs aC aO wQ) cI wY ++ (wPlan aP cI wP ++ (wStack aS cI wS ++ (wCourse aC cI wC ++ (wCourse aO cI uO ++ (wActs aA cI wA ++ (wMeans aM cJ uM))))))))))) (wModel aX cI cJ uX uL) (wModel aX cI cJ wX uL)) (Nat.le_of_ble_eq_true rfl) dL_law_1108 rfl ?_
  refine mk_icmp_eq C 1116 dL_law_1111 (by decide) (fun _ => ?_) (fun h9 => absurd rfl h9)
  exact mk_widen (by omega) (by omega) (K wQ uR uT uD wY wP wS wC uO wA uM wX uL hI2)
set_option maxHeartbeats 40000000 in
set_option maxRecDepth 100000 in
theorem law_loop {p : Program} {l : Launch} {e : Env} {s : State} {m : MethodId} {below : List Frame} {meth : Method} {c : Code} {D : va_G} {X Y : Nat → Nat} {cI cJ : ClassId} {b L : Nat} {xs : Nat → Int32} {aZ aR aT aD aY aP aS aC aO aA aM aX : Nat → Nat} (hL : L ≤ 3072) (C : mk_Cx p s m #[Value.ref b] c code 4 RL D [(cI, .int), (cJ, .long)] X Y (fun q => s.heap.size ≤ q)) (hX : va_X b L xs s s.heap) (hbl : b < s.heap.size) (hr : meth.sig.returnType = ret) (hlk : meth.locks = false) : ∀ (n k : Nat), L < 6 * (k + n) → 6 * k ≤ L → ∀ (uQ : Nat) (uR uT uD uY uP uS uC uO uA : Nat → Nat → Int32) (uM : Nat → Nat → Int64) (uX : Nat → Nat → Int32) (uL : Nat → Nat → Int64), mk_Inv uR uT uD uY uP uS uC uO uA uX → mk_Go p l e room_1 s m #[Value.ref b] below meth c D (fun q => s.heap.size ≤ q) 4 (78 + k) (15752 + 5 * k) (lw_Z below #[Value.ref b] s) 18 ((wChan aZ aR aT aD aY aP aC aO aA aM ++ (wReader aR aT aD uR ++ (wTape aT cI uT ++ (wPlan aD cI uD ++ (wPlay aY aP aS (mk_crs aC aO uQ) cI uY ++ (wPlan aP cI uP ++ (wStack aS cI uS ++ (wCourse aC cI uC ++ (wCourse aO cI uO ++ (wActs aA cI uA ++ (wMeans aM cJ uM))))))))))) ++ (wModel aX cI cJ uX uL)) [(0, .ref b), (1, .ref (aZ 0)), (2, .ref (aX 0)), (3, .int (nI (6 * k)))] [] := by
  have hA : ¬ (fun q => s.heap.size ≤ q) b := Nat.not_le.mpr hbl
  intro n
  induction n with
  | zero => intro k h1 h2; omega
  | succ n ih =>
    intro k h1 h2 uQ uR uT uD uY uP uS uC uO uA uM uX uL hI
    refine mk_iload_n C 3 dL_law_18 rfl ?_
    refine mk_aload_n C 0 dL_law_19 rfl ?_
    refine mk_slenS C hX hbl hA dL_law_20 ?_
    refine mk_bipush C (v := 6) dL_law_21 (by decide) ?_
    refine mk_isub C dL_law_23 ?_
    refine mk_icmp_gt C 1122 dL_law_24 (by decide) (fun _ => ?_) (fun c1 => ?_)
    · refine mk_iconst C (v := 1) dL_law_1122 (by decide) ?_
      exact mk_one1 C hr hlk (by omega) (by omega) dL_law_1123
    · have hk := mk_lc hL h2 c1
      have K : ∀ (uQ : Nat) (uR uT uD uY uP uS uC uO uA : Nat → Nat → Int32) (uM : Nat → Nat → Int64) (uX : Nat → Nat → Int32) (uL : Nat → Nat → Int64), mk_Inv uR uT uD uY uP uS uC uO uA uX → mk_Go p l e room_1 s m #[Value.ref b] below meth c D (fun q => s.heap.size ≤ q) 4 (78 + (k + 1)) (15752 + 5 * (k + 1)) (lw_Z below #[Value.ref b] s) 1116 ((wChan aZ aR aT aD aY aP aC aO aA aM ++ (wReader aR aT aD uR ++ (wTape aT cI uT ++ (wPlan aD cI uD ++ (wPlay aY aP aS (mk_crs aC aO uQ) cI uY ++ (wPlan aP cI uP ++ (wStack aS cI uS ++ (wCourse aC cI uC ++ (wCourse aO cI uO ++ (wActs aA cI uA ++ (wMeans aM cJ uM))))))))))) ++ (wModel aX cI cJ uX uL)) [(0, .ref b), (1, .ref (aZ 0)), (2, .ref (aX 0)), (3, .int (nI (6 * k)))] [] := by
        intro uQ uR uT uD uY uP uS uC uO uA uM uX uL hI
        refine mk_iinc C (v := nI (6 * (k + 1))) (lv' := [(3, .int (nI (6 * (k + 1)))), (0, .ref b), (1, .ref (aZ 0)), (2, .ref (aX 0))]) 3 dL_law_1116 rfl (nI_add (6 * k) 6) (by decide) rfl ?_
        refine mk_goto C 18 dL_law_1119 (by decide) ?_
        exact mk_lvsub [1, 2, 3, 0] rfl (ih (k + 1) (by omega) (by omega) uQ uR uT uD uY uP uS uC uO uA uM uX uL hI)
      refine mk_aload_n C 0 dL_law_27 rfl ?_
      refine mk_iload_n C 3 dL_law_28 rfl ?_
      refine mk_sld C hX hbl hA (vp_in_nI (by omega) (by omega)) dL_law_29 ?_
      refine mk_bipush C (v := 63) dL_law_30 (by decide) ?_
      refine mk_iand C dL_law_32 ?_
      by_cases c2 : (xs (nI (6 * k)).toNatClampNeg &&& 63) = 0
      · refine mk_tableIn C 188 c2 dL_law_33 (by decide) (by decide) rfl (by decide) ?_
        exact law_case0 hL C hX hbl hr hlk hk hI K
      by_cases c3 : (xs (nI (6 * k)).toNatClampNeg &&& 63) = 1
      · refine mk_tableIn C 251 c3 dL_law_33 (by decide) (by decide) rfl (by decide) ?_
        exact law_case1 hL C hX hbl hr hlk hk hI K
      by_cases c4 : (xs (nI (6 * k)).toNatClampNeg &&& 63) = 2
      · refine mk_tableIn C 274 c4 dL_law_33 (by decide) (by decide) rfl (by decide) ?_
        exact law_case2 hL C hX hbl hr hlk hk hI K
      by_cases c5 : (xs (nI (6 * k)).toNatClampNeg &&& 63) = 3
      · refine mk_tableIn C 287 c5 dL_law_33 (by decide) (by decide) rfl (by decide) ?_
        exact law_case3 hL C hX hbl hr hlk hk hI K
      by_cases c6 : (xs (nI (6 * k)).toNatClampNeg &&& 63) = 4
      · refine mk_tableIn C 310 c6 dL_law_33 (by decide) (by decide) rfl (by decide) ?_
        exact law_case4 hL C hX hbl hr hlk hk hI K
      by_cases c7 : (xs (nI (6 * k)).toNatClampNeg &&& 63) = 5
      · refine mk_tableIn C 333 c7 dL_law_33 (by decide) (by decide) rfl (by decide) ?_
        exact law_case5 hL C hX hbl hr hlk hk hI K
      by_cases c8 : (xs (nI (6 * k)).toNatClampNeg &&& 63) = 6
      · refine mk_tableIn C 366 c8 dL_law_33 (by decide) (by decide) rfl (by decide) ?_
        exact law_case6 hL C hX hbl hr hlk hk hI K
      by_cases c9 : (xs (nI (6 * k)).toNatClampNeg &&& 63) = 7
      · refine mk_tableIn C 399 c9 dL_law_33 (by decide) (by decide) rfl (by decide) ?_
        exact law_case7 hL C hX hbl hr hlk hk hI K
      by_cases c10 : (xs (nI (6 * k)).toNatClampNeg &&& 63) = 8
      · refine mk_tableIn C 432 c10 dL_law_33 (by decide) (by decide) rfl (by decide) ?_
        exact law_case8 hL C hX hbl hr hlk hk hI K
      by_cases c11 : (xs (nI (6 * k)).toNatClampNeg &&& 63) = 9
      · refine mk_tableIn C 455 c11 dL_law_33 (by decide) (by decide) rfl (by decide) ?_
        exact law_case9 hL C hX hbl hr hlk hk hI K
      by_cases c12 : (xs (nI (6 * k)).toNatClampNeg &&& 63) = 10
      · refine mk_tableIn C 478 c12 dL_law_33 (by decide) (by decide) rfl (by decide) ?_
        exact law_case10 hL C hX hbl hr hlk hk hI K
      by_cases c13 : (xs (nI (6 * k)).toNatClampNeg &&& 63) = 11
      · refine mk_tableIn C 501 c13 dL_law_33 (by decide) (by decide) rfl (by decide) ?_
        exact law_case11 hL C hX hbl hr hlk hk hI K
      by_cases c14 : (xs (nI (6 * k)).toNatClampNeg &&& 63) = 12
      · refine mk_tableIn C 524 c14 dL_law_33 (by decide) (by decide) rfl (by decide) ?_
        exact law_case12 hL C hX hbl hr hlk hk hI K
      by_cases c15 : (xs (nI (6 * k)).toNatClampNeg &&& 63) = 13
      · refine mk_tableIn C 537 c15 dL_law_33 (by decide) (by decide) rfl (by decide) ?_
        exact law_case13 hL C hX hbl hr hlk hk hI K
      by_cases c16 : (xs (nI (6 * k)).toNatClampNeg &&& 63) = 14
      · refine mk_tableIn C 550 c16 dL_law_33 (by decide) (by decide) rfl (by decide) ?_
        exact law_case14 hL C hX hbl hr hlk hk hI K
      by_cases c17 : (xs (nI (6 * k)).toNatClampNeg &&& 63) = 15
      · refine mk_tableIn C 573 c17 dL_law_33 (by decide) (by decide) rfl (by decide) ?_
        exact law_case15 hL C hX hbl hr hlk hk hI K
      by_cases c18 : (xs (nI (6 * k)).toNatClampNeg &&& 63) = 16
      · refine mk_tableIn C 586 c18 dL_law_33 (by decide) (by decide) rfl (by decide) ?_
        exact law_case16 hL C hX hbl hr hlk hk hI K
      by_cases c19 : (xs (nI (6 * k)).toNatClampNeg &&& 63) = 17
      · refine mk_tableIn C 599 c19 dL_law_33 (by decide) (by decide) rfl (by decide) ?_
        exact law_case17 hL C hX hbl hr hlk hk hI K
      by_cases c20 : (xs (nI (6 * k)).toNatClampNeg &&& 63) = 18
      · refine mk_tableIn C 612 c20 dL_law_33 (by decide) (by decide) rfl (by decide) ?_
        exact law_case18 hL C hX hbl hr hlk hk hI K
      by_cases c21 : (xs (nI (6 * k)).toNatClampNeg &&& 63) = 19
      · refine mk_tableIn C 625 c21 dL_law_33 (by decide) (by decide) rfl (by decide) ?_
        exact law_case19 hL C hX hbl hr hlk hk hI K
      by_cases c22 : (xs (nI (6 * k)).toNatClampNeg &&& 63) = 20
      · refine mk_tableIn C 658 c22 dL_law_33 (by decide) (by decide) rfl (by decide) ?_
        exact law_case20 hL C hX hbl hr hlk hk hI K
      by_cases c23 : (xs (nI (6 * k)).toNatClampNeg &&& 63) = 21
      · refine mk_tableIn C 681 c23 dL_law_33 (by decide) (by decide) rfl (by decide) ?_
        exact law_case21 hL C hX hbl hr hlk hk hI K
      by_cases c24 : (xs (nI (6 * k)).toNatClampNeg &&& 63) = 22
      · refine mk_tableIn C 714 c24 dL_law_33 (by decide) (by decide) rfl (by decide) ?_
        exact law_case22 hL C hX hbl hr hlk hk hI K
      by_cases c25 : (xs (nI (6 * k)).toNatClampNeg &&& 63) = 23
      · refine mk_tableIn C 737 c25 dL_law_33 (by decide) (by decide) rfl (by decide) ?_
        exact law_case23 hL C hX hbl hr hlk hk hI K
      by_cases c26 : (xs (nI (6 * k)).toNatClampNeg &&& 63) = 24
      · refine mk_tableIn C 770 c26 dL_law_33 (by decide) (by decide) rfl (by decide) ?_
        exact law_case24 hL C hX hbl hr hlk hk hI K
      by_cases c27 : (xs (nI (6 * k)).toNatClampNeg &&& 63) = 25
      · refine mk_tableIn C 793 c27 dL_law_33 (by decide) (by decide) rfl (by decide) ?_
        exact law_case25 hL C hX hbl hr hlk hk hI K
      by_cases c28 : (xs (nI (6 * k)).toNatClampNeg &&& 63) = 26
      · refine mk_tableIn C 806 c28 dL_law_33 (by decide) (by decide) rfl (by decide) ?_
        exact law_case26 hL C hX hbl hr hlk hk hI K
      by_cases c29 : (xs (nI (6 * k)).toNatClampNeg &&& 63) = 27
      · refine mk_tableIn C 850 c29 dL_law_33 (by decide) (by decide) rfl (by decide) ?_
        exact law_case27 hL C hX hbl hr hlk hk hI K
      by_cases c30 : (xs (nI (6 * k)).toNatClampNeg &&& 63) = 28
      · refine mk_tableIn C 914 c30 dL_law_33 (by decide) (by decide) rfl (by decide) ?_
        exact law_case28 hL C hX hbl hr hlk hk hI K
      by_cases c31 : (xs (nI (6 * k)).toNatClampNeg &&& 63) = 29
      · refine mk_tableIn C 968 c31 dL_law_33 (by decide) (by decide) rfl (by decide) ?_
        exact law_case29 hL C hX hbl hr hlk hk hI K
      by_cases c32 : (xs (nI (6 * k)).toNatClampNeg &&& 63) = 30
      · refine mk_tableIn C 991 c32 dL_law_33 (by decide) (by decide) rfl (by decide) ?_
        exact law_case30 hL C hX hbl hr hlk hk hI K
      by_cases c33 : (xs (nI (6 * k)).toNatClampNeg &&& 63) = 31
      · refine mk_tableIn C 1034 c33 dL_law_33 (by decide) (by decide) rfl (by decide) ?_
        exact law_case31 hL C hX hbl hr hlk hk hI K
      by_cases c34 : (xs (nI (6 * k)).toNatClampNeg &&& 63) = 32
      · refine mk_tableIn C 1067 c34 dL_law_33 (by decide) (by decide) rfl (by decide) ?_
        exact law_case32 hL C hX hbl hr hlk hk hI K
      by_cases c35 : (xs (nI (6 * k)).toNatClampNeg &&& 63) = 33
      · refine mk_tableIn C 1090 c35 dL_law_33 (by decide) (by decide) rfl (by decide) ?_
        exact law_case33 hL C hX hbl hr hlk hk hI K
      by_cases c36 : (xs (nI (6 * k)).toNatClampNeg &&& 63) = 34
      · refine mk_tableIn C 1103 c36 dL_law_33 (by decide) (by decide) rfl (by decide) ?_
        exact law_case34 hL C hX hbl hr hlk hk hI K
      refine mk_tableOut C 1116 dL_law_33 (by have e0 := mk_ne c2 (k := 0) (by decide); have e1 := mk_ne c3 (k := 1) (by decide); have e2 := mk_ne c4 (k := 2) (by decide); have e3 := mk_ne c5 (k := 3) (by decide); have e4 := mk_ne c6 (k := 4) (by decide); have e5 := mk_ne c7 (k := 5) (by decide); have e6 := mk_ne c8 (k := 6) (by decide); have e7 := mk_ne c9 (k := 7) (by decide); have e8 := mk_ne c10 (k := 8) (by decide); have e9 := mk_ne c11 (k := 9) (by decide); have e10 := mk_ne c12 (k := 10) (by decide); have e11 := mk_ne c13 (k := 11) (by decide); have e12 := mk_ne c14 (k := 12) (by decide); have e13 := mk_ne c15 (k := 13) (by decide); have e14 := mk_ne c16 (k := 14) (by decide); have e15 := mk_ne c17 (k := 15) (by decide); have e16 := mk_ne c18 (k := 16) (by decide); have e17 := mk_ne c19 (k := 17) (by decide); have e18 := mk_ne c20 (k := 18) (by decide); have e19 := mk_ne c21 (k := 19) (by decide); have e20 := mk_ne c22 (k := 20) (by decide); have e21 := mk_ne c23 (k := 21) (by decide); have e22 := mk_ne c24 (k := 22) (by decide); have e23 := mk_ne c25 (k := 23) (by decide); have e24 := mk_ne c26 (k := 24) (by decide); have e25 := mk_ne c27 (k := 25) (by decide); have e26 := mk_ne c28 (k := 26) (by decide); have e27 := mk_ne c29 (k := 27) (by decide); have e28 := mk_ne c30 (k := 28) (by decide); have e29 := mk_ne c31 (k := 29) (by decide); have e30 := mk_ne c32 (k := 30) (by decide); have e31 := mk_ne c33 (k := 31) (by decide); have e32 := mk_ne c34 (k := 32) (by decide); have e33 := mk_ne c35 (k := 33) (by decide); have e34 := mk_ne c36 (k := 34) (by decide); omega) (by decide) ?_
      exact mk_widen (by omega) (by omega) (K uQ uR uT uD uY uP uS uC uO uA uM uX uL hI)
set_option maxHeartbeats 40000000 in
set_option maxRecDepth 100000 in
theorem whole_start {p : Program} {e : Env} {s : State} {m : MethodId} {below : List Frame} {meth : Method} {c : Code} (l : Launch) (hflags : l.flags = flags0) {b L : Nat} {xs : Nat → Int32} (hL : L ≤ 3072) (C0 : lw_At p s m meth c b L xs) : W p l e room_1 s m #[Value.ref b] below meth c s.heap [] 0 0 (lw_Z below #[Value.ref b] s) (entryFrame m ([Value.ref b] : List Value).toArray 4) := by
  obtain ⟨hx, hb, hr, hml, hown, hts, hX, hbl, hlk, hgv⟩ := id C0
  have hA0 : ∀ a : Nat, a < s.heap.size → ¬ (fun q : Nat => s.heap.size ≤ q) a := fun a h => Nat.not_le.mpr h
  obtain ⟨X, Y, hE⟩ := mk_ambient (A := fun q : Nat => s.heap.size ≤ q) hts (mk_andR hgv) hA0
  obtain ⟨cI, kI, compI, fI, hkI, hdI⟩ := Cond.arrayClass_spec (hts _ (mk_WL_in _ mw_48))
  obtain ⟨cJ, kJ, compJ, fJ, hkJ, hdJ⟩ := Cond.arrayClass_spec (hts _ (mk_WL_in _ mw_341))
  obtain ⟨k0, i0, hKn0⟩ := u_known (C := RX0) (T := TX0) (N := 3) (n := 3) hts (fun w hw => mk_WL_in w (mk_inX0 w hw)) (hts _ (mk_WL_in _ mw_299))
  obtain ⟨k1, i1, hKn1⟩ := u_known (C := RX1) (T := TX1) (N := 14) (n := 14) hts (fun w hw => mk_WL_in w (mk_inX1 w hw)) (hts _ (mk_WL_in _ mw_183))
  obtain ⟨k2, i2, hKn2⟩ := u_known (C := RX2) (T := TX2) (N := 5) (n := 5) hts (fun w hw => mk_WL_in w (mk_inX2 w hw)) (hts _ (mk_WL_in _ mw_316))
  obtain ⟨k3, i3, hKn3⟩ := u_known (C := RX3) (T := TX3) (N := 12) (n := 12) hts (fun w hw => mk_WL_in w (mk_inX3 w hw)) (hts _ (mk_WL_in _ mw_50))
  obtain ⟨k4, i4, hKn4⟩ := u_known (C := RX4) (T := TX4) (N := 13) (n := 13) hts (fun w hw => mk_WL_in w (mk_inX4 w hw)) (hts _ (mk_WL_in _ mw_153))
  obtain ⟨k5, i5, hKn5⟩ := u_known (C := RX5) (T := TX5) (N := 8) (n := 8) hts (fun w hw => mk_WL_in w (mk_inX5 w hw)) (hts _ (mk_WL_in _ mw_27))
  obtain ⟨k6, i6, hKn6⟩ := u_known (C := RX6) (T := TX6) (N := 4) (n := 4) hts (fun w hw => mk_WL_in w (mk_inX6 w hw)) (hts _ (mk_WL_in _ mw_161))
  obtain ⟨k7, i7, hKn7⟩ := u_known (C := RX7) (T := TX7) (N := 2) (n := 2) hts (fun w hw => mk_WL_in w (mk_inX7 w hw)) (hts _ (mk_WL_in _ mw_33))
  obtain ⟨k8, i8, hKn8⟩ := u_known (C := RX8) (T := TX8) (N := 9) (n := 9) hts (fun w hw => mk_WL_in w (mk_inX8 w hw)) (hts _ (mk_WL_in _ mw_19))
  obtain ⟨k9, i9, hKn9⟩ := u_known (C := RX9) (T := TX9) (N := 47) (n := 47) hts (fun w hw => mk_WL_in w (mk_inX9 w hw)) (hts _ (mk_WL_in _ mw_897))
  obtain ⟨D, hKc⟩ : ∃ D : va_G, ∀ (k : Nat) (q : vw_C), vwCl[k]? = some q → u_Kn s q.1 q.2.1 q.2.2 (D.1 k) (D.2 k) := by
    refine ⟨(fun k => [k0, k1, k2, k3, k4, k5, k6, k7, k8, k9].getD k 0, fun k => [i0, i1, i2, i3, i4, i5, i6, i7, i8, i9].getD k (fun _ => 0)), ?_⟩
    intro k q hq
    match k, hq with
    | 0, hq => cases hq; exact hKn0
    | 1, hq => cases hq; exact hKn1
    | 2, hq => cases hq; exact hKn2
    | 3, hq => cases hq; exact hKn3
    | 4, hq => cases hq; exact hKn4
    | 5, hq => cases hq; exact hKn5
    | 6, hq => cases hq; exact hKn6
    | 7, hq => cases hq; exact hKn7
    | 8, hq => cases hq; exact hKn8
    | 9, hq => cases hq; exact hKn9
    | k + 10, hq => simp [vwCl] at hq
  have hK : va_K D vwCl [(cI, .int), (cJ, .long)] s := ⟨hKc, fun k q hq => by
    match k, hq with
    | 0, hq => cases hq; exact ⟨fun n z => ⟨fun k h => (by cases h), kI, hkI, compI, hdI⟩, fI⟩
    | 1, hq => cases hq; exact ⟨fun n z => ⟨fun k h => (by cases h), kJ, hkJ, compJ, hdJ⟩, fJ⟩
    | k + 2, hq => simp at hq⟩
  have C : mk_Cx p s m #[Value.ref b] c code 4 RL D [(cI, .int), (cJ, .long)] X Y (fun q => s.heap.size ≤ q) := ⟨⟨hx, hb, hml, hown, fun w hw => hts w (mk_WL_in w hw)⟩, hK, hE, fun _ h => h⟩
  have hl := lv_entry ([.ref b]) (n := 4) (Nat.le_of_ble_eq_true rfl)
  rw [lg_entry_eq]
  have G : mk_Go p l e room_1 s m #[Value.ref b] below meth c D (fun q => s.heap.size ≤ q) 4 0 0 (lw_Z below #[Value.ref b] s) 0 [] [(0, .ref b)] [] := by
    refine mk_new C (ci := 8) mk_inX8 tyX8 tyX8_ok mw_18 mw_19 mw_1 rfl mk_df8 ⟨Nat.le_of_ble_eq_true rfl, Nat.le_of_ble_eq_true rfl⟩ dL_law_0 (fun q1 => ?_)
    refine mk_dup C dL_law_3 rfl ?_
    refine mk_callI C (wr := []) (c_Z_init l D cI cJ X Y q1) mw_20 mw_21 mw_1 mw_22 mkn_X8_init rfl ⟨Nat.le_of_ble_eq_true rfl, Nat.le_of_ble_eq_true rfl⟩ ⟨rfl, rfl⟩ ⟨Nat.le_of_ble_eq_true rfl, Nat.le_of_ble_eq_true rfl⟩ (List.Perm.refl _) (Nat.le_of_ble_eq_true rfl) dL_law_4 (fun u hu => ?_)
    obtain ⟨aZ, aR, aT, aD, aY, aP, aS, aC, aO, aA, aM⟩ := u
    replace hu : aZ 0 = q1 := hu
    subst hu
    refine mk_weq (ws' := (wChan aZ aR aT aD aY aP aC aO aA aM ++ (wReader aR aT aD (upF 7 (-1) mk_z) ++ (wTape aT cI mk_z ++ (wPlan aD cI mk_z ++ (wPlay aY aP aS (mk_crs aC aO 0) cI mk_z ++ (wPlan aP cI mk_z ++ (wStack aS cI mk_z ++ (wCourse aC cI mk_z ++ (wCourse aO cI mk_z ++ (wActs aA cI mk_z ++ (wMeans aM cJ mk_zL)))))))))))) (by simp only [List.nil_append, List.append_assoc]; rfl) ?_
    refine mk_astore_n C (lv' := [(1, .ref (aZ 0)), (0, .ref b)]) dL_law_7 (by decide) rfl ?_
    refine mk_new C (ci := 9) mk_inX9 tyX9 tyX9_ok mw_896 mw_897 mw_10 rfl mk_df9 ⟨Nat.le_of_ble_eq_true rfl, Nat.le_of_ble_eq_true rfl⟩ dL_law_8 (fun q2 => ?_)
    refine mk_dup C dL_law_11 rfl ?_
    refine mk_callI C (wr := (wChan aZ aR aT aD aY aP aC aO aA aM ++ (wReader aR aT aD (upF 7 (-1) mk_z) ++ (wTape aT cI mk_z ++ (wPlan aD cI mk_z ++ (wPlay aY aP aS (mk_crs aC aO 0) cI mk_z ++ (wPlan aP cI mk_z ++ (wStack aS cI mk_z ++ (wCourse aC cI mk_z ++ (wCourse aO cI mk_z ++ (wActs aA cI mk_z ++ (wMeans aM cJ mk_zL)))))))))))) (c_X_init l D cI cJ X Y q2) mw_898 mw_899 mw_10 mw_900 mkn_X9_init rfl ⟨Nat.le_of_ble_eq_true rfl, Nat.le_of_ble_eq_true rfl⟩ ⟨rfl, rfl⟩ ⟨Nat.le_of_ble_eq_true rfl, Nat.le_of_ble_eq_true rfl⟩ (List.Perm.refl _) (Nat.le_of_ble_eq_true rfl) dL_law_12 (fun aX hu => ?_)
    replace hu : aX 0 = q2 := hu
    subst hu
    refine mk_astore_n C (lv' := [(2, .ref (aX 0)), (1, .ref (aZ 0)), (0, .ref b)]) dL_law_15 (by decide) rfl ?_
    refine mk_iconst C (v := 0) dL_law_16 (by decide) ?_
    refine mk_istore_n C (lv' := [(3, .int 0), (2, .ref (aX 0)), (1, .ref (aZ 0)), (0, .ref b)]) dL_law_17 (by decide) rfl ?_
    refine mk_widen (k := 78 + 0) (n := 15752 + 5 * 0) (by decide) (by decide) ?_
    exact mk_lvsub [3, 2, 1, 0] rfl (law_loop hL C hX hbl hr hlk (L + 1) 0 (by omega) (by omega) 0 (upF 7 (-1) mk_z) mk_z mk_z mk_z mk_z mk_z mk_z mk_z mk_z mk_zL (upF 7 (-1) mk_z) mk_zL mk_Inv_0)
  exact G s.heap [] _ (fun k q h => by simp at h) ⟨fun i j p q h => by simp at h, fun k q h => by simp at h⟩ va_S.rf hl
