theorem mkq_X8_count : mk_nm yX8_count 1 := by decide +kernel
theorem mkq_X8_by : mk_nm yX8_by 2 := by decide +kernel
theorem mkq_X8_rule : mk_nm yX8_rule 1 := by decide +kernel
theorem mkq_L_isSo : mk_nm yL_isSo 2 := by decide +kernel
theorem mkq_X8_undo : mk_nm yX8_undo 0 := by decide +kernel
theorem mkq_L_isCounted : mk_nm yL_isCounted 2 := by decide +kernel
/-! the law's own walk (law14.py) -/
theorem bvN_bit (x : Nat) : ∀ m j, j < m → (bvN x m).testBit (m - 1 - j) = x.testBit j
  | 0, j, h => absurd h (Nat.not_lt_zero j)
  | m + 1, j, h => by
    rw [bvN]
    by_cases q : j = m
    · subst q
      rw [show j + 1 - 1 - j = 0 by omega, Nat.testBit_zero]
      cases e : x.testBit j
      · first | (simp; done) | (simp; omega)
      · first | (simp; done) | (simp; omega)
    · rw [show m + 1 - 1 - j = (m - 1 - j) + 1 by omega, Nat.testBit_succ]
      have : (bvN x m * 2 + if x.testBit m then 1 else 0) / 2 = bvN x m := by split <;> omega
      rw [this]
      exact bvN_bit x m j (by omega)
theorem tb_bt (Y : mk_Y) {i j : Nat} (hi : i < 10) (hj : j < zd Y (17 + i)) : bt Y i j = if tb (zd Y) i j then 1 else 0 := by
  unfold tb bt
  rw [Nat.mod_eq_of_lt hj, zd_27 Y hi, bvN_bit _ _ _ hj]
theorem cn_rows {Y : mk_Y} {cB : ClassId} {u : cnS} (h : cnP Y cB u) : zRows (zd Y) u.2.1.1 u.2.1.2.1 u.2.1.2.2.1 := by
  obtain ⟨-, -, h1, -, -, -, h4, h5⟩ := zd_le Y
  refine ⟨by omega, h4, h5, fun i hi => ⟨h.1 i hi, ?_⟩, fun i hi => ⟨(h.2.1 i hi).1, ?_, (h.2.1 i hi).2, (zd_37l Y (i := i) (by omega)).2⟩⟩
  · have := (zd_7l Y (i := i) (by omega)).1; omega
  · have := (zd_37l Y (i := i) (by omega)).1; omega
theorem cn_text {Y : mk_Y} {n : Nat} {t : Nat → Nat} {T : Nat → Nat → Int32} (h : tx n t (zTn Y (zd Y 5))) (h1 : T 1 0 = nI n) (h2 : ∀ j, j < n → T 0 j = nI (t j)) : Pt T 0 (zTn Y (zd Y 5)) := by
  have hl := zTn_len Y (zd Y 5) (zd_le Y).2.2.2.2.2.2.2
  have h5 := (zd_le Y).2.2.2.2.2.2.2
  obtain ⟨a1, a2, a3⟩ := h
  refine ⟨by omega, by rw [h1, a1, Nat.zero_add], fun j hj => ?_, a3⟩
  rw [Nat.zero_add, h2 j (by omega), a2 j (by omega)]
/-- the strings of bits among the surroundings -/
def xB (d4 : Nat) (X : Nat → Nat) (F : Nat → Nat × Nat × (Nat → Int32) × (Nat → Nat)) : Nat → Nat := fun k => if 23 ≤ k ∧ k < 23 + d4 then (F (k - 23)).1 else X k
def yB (d4 : Nat) (Y : mk_Y) (F : Nat → Nat × Nat × (Nat → Int32) × (Nat → Nat)) : mk_Y := (fun k => if 23 ≤ k ∧ k < 23 + d4 then ((F (k - 23)).2.1, zd Y (17 + (k - 23)), (F (k - 23)).2.2.2) else Y.1 k, Y.2)
theorem cn_bits_of {Y : mk_Y} {cB : ClassId} {X : Nat → Nat} {fB : Nat → Option Nat} {W V : va_W} (hPu : mk_Pu Y) (h : ∀ i, i < zd Y 4 → bOK Y cB fB W i) (hV : ∀ w ∈ W, w ∈ V) : ∃ (X' : Nat → Nat) (Y' : mk_Y), mk_Xt X X' Y Y' cB V ∧ (∀ k, mk_Sp (Y'.1 k)) ∧ zBits (zd Y) fB X' Y' := by
  have h4 := (zd_le Y).2.2.2.2.2.2.1
  have hc : ∀ i : Nat, ∃ F : Nat × Nat × (Nat → Int32) × (Nat → Nat), i < zd Y 4 → fB i = some F.1 ∧ (F.1, Sum.inr (10, [Value.ref F.2.1, .int 0, .int 0, .int 0])) ∈ W ∧ (F.2.1, Sum.inl (cB, zd Y (17 + i), .inl F.2.2.1)) ∈ W ∧ tx (zd Y (17 + i)) F.2.2.2 (bLk Y i (zd Y (17 + i))) ∧ ∀ j, j < zd Y (17 + i) → F.2.2.1 j = nI (F.2.2.2 j) := by
    intro i
    by_cases hi : i < zd Y 4
    · obtain ⟨y, v, f, t, r⟩ := h i hi
      exact ⟨(y, v, f, t), fun _ => r⟩
    · exact ⟨(0, 0, fun _ => 0, fun _ => 0), fun z => absurd z hi⟩
  obtain ⟨F, hF⟩ := Classical.skolem.mp hc
  have hl : ∀ i, i < zd Y 4 → 1 ≤ zd Y (17 + i) ∧ zd Y (17 + i) ≤ 12 := fun i hi => (zd_7l Y (i := i) (by omega)).2
  have key : ∀ i, i < zd Y 4 → xB (zd Y 4) X F (23 + i) = (F i).1 ∧ (yB (zd Y 4) Y F).1 (23 + i) = ((F i).2.1, zd Y (17 + i), (F i).2.2.2) := fun i hi => by
    unfold xB yB
    constructor
    · rw [if_pos ⟨by omega, by omega⟩, Nat.add_sub_cancel_left]
    · show (if 23 ≤ 23 + i ∧ 23 + i < 23 + zd Y 4 then _ else _) = _
      rw [if_pos ⟨by omega, by omega⟩, Nat.add_sub_cancel_left]
  have hsp : ∀ i, i < zd Y 4 → mk_Sp ((F i).2.1, zd Y (17 + i), (F i).2.2.2) := fun i hi => tx_sp (hF i hi).2.2.2.1 (by have := hl i hi; omega)
  refine ⟨xB (zd Y 4) X F, yB (zd Y 4) Y F, ⟨rfl, fun k hk => ⟨if_neg (by omega), if_neg (by omega)⟩, fun k => ?_⟩, fun k => ?_, fun i hi => ?_⟩
  · by_cases e : 23 ≤ k ∧ k < 23 + zd Y 4
    · obtain ⟨i, rfl⟩ : ∃ i, k = 23 + i := ⟨k - 23, by omega⟩
      obtain ⟨k1, k2⟩ := key i (by omega)
      obtain ⟨f1, f2, f3, f4, f5⟩ := hF i (by omega)
      right
      rw [k1, k2]
      exact ⟨hsp i (by omega), hV _ f2, (F i).2.2.1, hV _ f3, f5⟩
    · exact Or.inl ⟨k, if_neg e, if_neg e⟩
  · by_cases e : 23 ≤ k ∧ k < 23 + zd Y 4
    · obtain ⟨i, rfl⟩ : ∃ i, k = 23 + i := ⟨k - 23, by omega⟩
      rw [(key i (by omega)).2]
      exact hsp i (by omega)
    · have : (yB (zd Y 4) Y F).1 k = Y.1 k := if_neg e
      rw [this]; exact hPu.1 k
  · obtain ⟨k1, k2⟩ := key i hi
    obtain ⟨f1, f2, f3, f4, f5⟩ := hF i hi
    refine ⟨23 + i, by rw [k1]; exact f1, by rw [k2], (hl i hi).1, (hl i hi).2, fun j hj => ?_⟩
    rw [k2]
    show (F i).2.2.2 j = _
    rw [f4.2.1 j hj, bLk_get Y i _ j hj, tb_bt Y (by omega) hj]
theorem mk_Fr.mid2 (a b V b1 : va_W) : mk_Fr (a ++ (b ++ V)) b b1 (a ++ (b1 ++ V)) := ⟨a ++ V, by rw [List.append_assoc]; exact List.Perm.append_left a List.perm_append_comm, by rw [List.append_assoc]; exact List.Perm.append_left a List.perm_append_comm⟩
theorem mk_Fr.two (a b V : va_W) : mk_Fr (a ++ (b ++ V)) (a ++ b) (a ++ b) (a ++ (b ++ V)) := ⟨V, by rw [← List.append_assoc]; exact List.perm_append_comm, by rw [← List.append_assoc]; exact List.perm_append_comm⟩
theorem mk_pM (a b V : va_W) : (a ++ (b ++ V)).Perm ((a ++ V) ++ b) := by rw [List.append_assoc]; exact List.Perm.append_left a List.perm_append_comm
theorem mk_pN (a b V : va_W) : (a ++ (b ++ V)).Perm (V ++ (a ++ b)) := by rw [← List.append_assoc]; exact List.perm_append_comm
theorem mk_one1 {p : Program} {l : Launch} {e : Env} {s : State} {m : MethodId} {below : List Frame} {meth : Method} {c : Code} {D : va_G} {own : String} {tys : List (ClassId × FieldType)} {X : Nat → Nat} {Y : mk_Y} {b : Nat} {cells slots pc : Nat} {ws : va_W} {lv : mk_L} (C : mk_Cx p s m #[Value.ref b] c code 7 own D tys X Y (fun q => s.heap.size ≤ q)) (hr : meth.sig.returnType = ret) (hlocks : meth.locks = false) (hc : cells ≤ 600000) (hs : slots ≤ 7302250) (hdg : decode code pc = .ok (.ireturn, 1)) : mk_Go p l e room_1 s m #[Value.ref b] below meth c D (fun q => s.heap.size ≤ q) 7 cells slots (lw_Z below #[Value.ref b] s) pc ws lv [.int 1] :=
  fun H locs ls hP hD hS hl => va_forget (fun q hq => hS.2.2 q hq) (W.widen hc hs (lw_ret C.1.1 C.1.2.1 hr hlocks hdg))
set_option maxHeartbeats 4000000 in
set_option maxRecDepth 100000 in
theorem lw_loop {p : Program} {l : Launch} {e : Env} {s : State} {m : MethodId} {below : List Frame} {meth : Method} {c : Code} {D : va_G} {cI cJ cB cZ cS : ClassId} {X : Nat → Nat} {Y : mk_Y} {b : Nat} (C : mk_Cx p s m #[Value.ref b] c code 7 RL D (mk_TY cI cJ cB cZ cS) X Y (fun q => s.heap.size ≤ q)) (hr : meth.sig.returnType = ret) (hlk : meth.locks = false) {aZ aR aT aD aY aP aS aC aO aA aM : Nat → Nat} {uR uT uD : Nat → Nat → Int32} {uM : Nat → Nat → Int64} {z aW aN aK aB xt : Nat} {gW gN gK : Nat → Int32} {fB : Nat → Option Nat} {V : va_W} (hz : zRows (zd Y) gW gN gK) {X' : Nat → Nat} {Y' : mk_Y} (hXt : mk_Xt X X' Y Y' cB V) (hSp : ∀ k, mk_Sp (Y'.1 k)) (hzb : zBits (zd Y) fB X' Y') (hB : mk_BD (zd Y)) (h0 : 0 < zd Y 1) : ∀ k t uQ uY uP uS uC uO uA, t + k = 4 → mk_CP uP (zd Y) → NowR (zd Y) (zd Y 0) uC → uA 2 0 = 0 → mk_Go p l e room_1 s m #[Value.ref b] below meth c D (fun q => s.heap.size ≤ q) 7 (900 + 6 * t) (1600000 + 60 * t) (lw_Z below #[Value.ref b] s) 81 ([(z, .inr (9, [.int (nI (zd Y 0)), .int (nI (zd Y 1)), .int (nI (zd Y 4)), .int (nI (zd Y 5)), .ref aW, .ref aN, .ref aK, .ref aB, .ref xt])), (aW, .inl (cI, (zd Y 4), .inl gW)), (aN, .inl (cI, (zd Y 5), .inl gN)), (aK, .inl (cI, (zd Y 5), .inl gK)), (aB, .inl (cS, (zd Y 4), .inr (.inr (.inr (.inr fB)))))] ++ ((wChan aZ aR aT aD aY aP aC aO aA aM ++ (wReader aR aT aD uR ++ (wTape aT cI uT ++ (wPlan aD cI uD ++ (wPlay aY aP aS (mk_crs aC aO uQ) cI uY ++ (wPlan aP cI uP ++ (wStack aS cI uS ++ (wCourse aC cI uC ++ (wCourse aO cI uO ++ (wActs aA cI uA ++ (wMeans aM cJ uM))))))))))) ++ V)) [(4, .int (nI t)), (3, .int (byV (zd Y) (zd Y 0) 1)), (2, .ref z), (1, .ref (aZ 0)), (0, .ref b)] [] := by
  intro k
  induction k with
  | zero =>
    intro t uQ uY uP uS uC uO uA ht hC hN hA
    obtain rfl : t = 4 := by omega
    have hF := SoF_now hB hC.Q h0 hN
    refine mk_iload C 0 dL_law_81 rfl ?_
    refine mk_iconst C (v := 4) dL_law_83 (by decide) ?_
    refine mk_icmp_ge C 220 dL_law_84 (by decide) (fun _ => ?_) (fun h9 => absurd (nI_le (a := 4) (b := 4) (by decide) (by decide)) h9)
    refine mk_aload_n C 3 dL_law_220 rfl ?_
    refine mk_callXi C (c_Z_all l D cI cJ cB cZ cS X Y aZ aR aT aD aY aP aS aC aO aA aM uQ uR uT uD uY uP uS uC uO uA uM  (byV (zd Y) (zd Y 0) 1)  (hF.2.2.2.2.2.2.1)) mw_624 mw_625 mw_626 mw_1 mw_627 mkq_X8_all rfl ⟨Nat.le_of_ble_eq_true rfl, Nat.le_of_ble_eq_true rfl⟩ ⟨by show (900 + 6 * 4) ≤ 600000; omega, by show (1600000 + 60 * 4) ≤ 7302250; omega⟩ 5 rfl rfl rfl (mk_Fr.mid2 [(z, .inr (9, [.int (nI (zd Y 0)), .int (nI (zd Y 1)), .int (nI (zd Y 4)), .int (nI (zd Y 5)), .ref aW, .ref aN, .ref aK, .ref aB, .ref xt])), (aW, .inl (cI, (zd Y 4), .inl gW)), (aN, .inl (cI, (zd Y 5), .inl gN)), (aK, .inl (cI, (zd Y 5), .inl gK)), (aB, .inl (cS, (zd Y 4), .inr (.inr (.inr (.inr fB)))))] (wChan aZ aR aT aD aY aP aC aO aA aM ++ (wReader aR aT aD uR ++ (wTape aT cI uT ++ (wPlan aD cI uD ++ (wPlay aY aP aS (mk_crs aC aO uQ) cI uY ++ (wPlan aP cI uP ++ (wStack aS cI uS ++ (wCourse aC cI uC ++ (wCourse aO cI uO ++ (wActs aA cI uA ++ (wMeans aM cJ uM))))))))))) V (wChan aZ aR aT aD aY aP aC aO aA aM ++ (wReader aR aT aD uR ++ (wTape aT cI uT ++ (wPlan aD cI uD ++ (wPlay aY aP aS (mk_crs aC aO uQ) cI uY ++ (wPlan aP cI uP ++ (wStack aS cI uS ++ (wCourse aC cI uC ++ (wCourse aO cI uO ++ (wActs aA cI uA ++ (wMeans aM cJ uM)))))))))))) (Nat.le_of_ble_eq_true rfl) dL_law_221 rfl ?_
    refine mk_iload_n C 1 dL_law_224 rfl ?_
    refine mk_icmp_ne C 244 dL_law_225 (by decide) (fun h9 => absurd h9 (fun z => z rfl)) (fun _ => ?_)
    refine mk_aload_n C 3 dL_law_228 rfl ?_
    refine mk_iconst C (v := 0) dL_law_229 (by decide) ?_
    refine mk_callXi C (c_Z_count l D cI cJ cB cZ cS X Y aZ aR aT aD aY aP aS aC aO aA aM uQ uR uT uD uY uP uS uC uO uA uM 0 (nI (zd Y 0))  (by unfold f_Z_count; rw [if_pos rfl, hC.1])) mw_620 mw_621 mw_622 mw_1 mw_623 mkq_X8_count rfl ⟨Nat.le_of_ble_eq_true rfl, Nat.le_of_ble_eq_true rfl⟩ ⟨by show (900 + 6 * 4) ≤ 600000; omega, by show (1600000 + 60 * 4) ≤ 7302250; omega⟩ 5 rfl rfl rfl (mk_Fr.mid2 [(z, .inr (9, [.int (nI (zd Y 0)), .int (nI (zd Y 1)), .int (nI (zd Y 4)), .int (nI (zd Y 5)), .ref aW, .ref aN, .ref aK, .ref aB, .ref xt])), (aW, .inl (cI, (zd Y 4), .inl gW)), (aN, .inl (cI, (zd Y 5), .inl gN)), (aK, .inl (cI, (zd Y 5), .inl gK)), (aB, .inl (cS, (zd Y 4), .inr (.inr (.inr (.inr fB)))))] (wChan aZ aR aT aD aY aP aC aO aA aM ++ (wReader aR aT aD uR ++ (wTape aT cI uT ++ (wPlan aD cI uD ++ (wPlay aY aP aS (mk_crs aC aO uQ) cI uY ++ (wPlan aP cI uP ++ (wStack aS cI uS ++ (wCourse aC cI uC ++ (wCourse aO cI uO ++ (wActs aA cI uA ++ (wMeans aM cJ uM))))))))))) V (wChan aZ aR aT aD aY aP aC aO aA aM ++ (wReader aR aT aD uR ++ (wTape aT cI uT ++ (wPlan aD cI uD ++ (wPlay aY aP aS (mk_crs aC aO uQ) cI uY ++ (wPlan aP cI uP ++ (wStack aS cI uS ++ (wCourse aC cI uC ++ (wCourse aO cI uO ++ (wActs aA cI uA ++ (wMeans aM cJ uM)))))))))))) (Nat.le_of_ble_eq_true rfl) dL_law_230 rfl ?_
    refine mk_aload_n C 2 dL_law_233 rfl ?_
    refine mk_getN C 0 rfl 0 (by decide) (List.mem_of_getElem? (i := 0) rfl) (v := .int (nI (zd Y 0))) rfl dL_law_234 ?_
    refine mk_icmp_ne C 244 dL_law_237 (by decide) (fun h9 => absurd h9 (fun z => z rfl)) (fun _ => ?_)
    refine mk_iconst C (v := 1) dL_law_240 (by decide) ?_
    refine mk_goto C 245 dL_law_241 (by decide) ?_
    exact mk_one1 C hr hlk (by omega) (by omega) dL_law_245
  | succ k ih =>
    intro t uQ uY uP uS uC uO uA ht hC hN hA
    have ht3 : t ≤ 3 := by omega
    have hd0 : zd Y 0 ≤ 3 := hB.1
    have hF := SoF_now hB hC.Q h0 hN
    refine mk_iload C 0 dL_law_81 rfl ?_
    refine mk_iconst C (v := 4) dL_law_83 (by decide) ?_
    refine mk_icmp_ge C 220 dL_law_84 (by decide) (fun h9 => absurd h9 ((jk_nle (a := 4) (b := t) (by omega) (by decide)))) (fun _ => ?_)
    refine mk_aload_n C 3 dL_law_87 rfl ?_
    refine mk_iload C 0 dL_law_88 rfl ?_
    refine mk_iconst C (v := 1) dL_law_90 (by decide) ?_
    obtain ⟨bYa, bSa, bOa, bea⟩ := by_of (uQ := uQ) (uY := uY) (uP := uP) (uS := uS) (uO := uO) hB (hC.Q) h0 (l := t) ht3 (k := 1) (by decide)
    refine mk_callXi C (c_Z_by l D cI cJ cB cZ cS X Y aZ aR aT aD aY aP aS aC aO aA aM uQ uR uT uD uY uP uS uC uO uA uM (nI t) 1 (byV (zd Y) t 1) 1 bYa bSa bOa (bea)) mw_658 mw_659 mw_660 mw_1 mw_661 mkq_X8_by rfl ⟨Nat.le_of_ble_eq_true rfl, Nat.le_of_ble_eq_true rfl⟩ ⟨by show (900 + 6 * t) ≤ 600000; omega, by show (1600000 + 60 * t) ≤ 7302250; omega⟩ 5 rfl rfl rfl (mk_Fr.mid2 [(z, .inr (9, [.int (nI (zd Y 0)), .int (nI (zd Y 1)), .int (nI (zd Y 4)), .int (nI (zd Y 5)), .ref aW, .ref aN, .ref aK, .ref aB, .ref xt])), (aW, .inl (cI, (zd Y 4), .inl gW)), (aN, .inl (cI, (zd Y 5), .inl gN)), (aK, .inl (cI, (zd Y 5), .inl gK)), (aB, .inl (cS, (zd Y 4), .inr (.inr (.inr (.inr fB)))))] (wChan aZ aR aT aD aY aP aC aO aA aM ++ (wReader aR aT aD uR ++ (wTape aT cI uT ++ (wPlan aD cI uD ++ (wPlay aY aP aS (mk_crs aC aO uQ) cI uY ++ (wPlan aP cI uP ++ (wStack aS cI uS ++ (wCourse aC cI uC ++ (wCourse aO cI uO ++ (wActs aA cI uA ++ (wMeans aM cJ uM))))))))))) V (wChan aZ aR aT aD aY aP aC aO aA aM ++ (wReader aR aT aD uR ++ (wTape aT cI uT ++ (wPlan aD cI uD ++ (wPlay aY aP aS (mk_crs aC aO 1) cI bYa ++ (wPlan aP cI uP ++ (wStack aS cI bSa ++ (wCourse aC cI uC ++ (wCourse aO cI bOa ++ (wActs aA cI uA ++ (wMeans aM cJ uM)))))))))))) (Nat.le_of_ble_eq_true rfl) dL_law_91 rfl ?_
    refine mk_istore C (lv' := [(5, .int (byV (zd Y) t 1)), (4, .int (nI t)), (3, .int (byV (zd Y) (zd Y 0) 1)), (2, .ref z), (1, .ref (aZ 0)), (0, .ref b)]) dL_law_94 (by decide) rfl ?_
    refine mk_iload C 1 dL_law_96 rfl ?_
    refine mk_aload_n C 3 dL_law_98 rfl ?_
    refine mk_getN C 0 rfl 0 (by decide) (List.mem_of_getElem? (i := 0) rfl) (v := .int (nI (zd Y 0))) rfl dL_law_99 ?_
    refine mk_icmp_ne C 124 dL_law_102 (by decide) (fun hc => ?_) (fun hc => ?_)
    · have hne : t ≠ zd Y 0 := fun z => hc (by rw [z])
      refine mk_aload_n C 4 dL_law_124 rfl ?_
      refine mk_iload C 1 dL_law_125 rfl ?_
      refine mk_iconst C (v := 0) dL_law_127 (by decide) ?_
      obtain ⟨bYb, bSb, bOb, beb⟩ := by_of (uQ := 1) (uY := bYa) (uP := uP) (uS := bSa) (uO := bOa) hB (hC.Q) h0 (l := t) ht3 (k := 0) (by decide)
      refine mk_callXi C (c_Z_by l D cI cJ cB cZ cS X Y aZ aR aT aD aY aP aS aC aO aA aM 1 uR uT uD bYa uP bSa uC bOa uA uM (nI t) 0 (byV (zd Y) t 0) 1 bYb bSb bOb (beb)) mw_658 mw_659 mw_660 mw_1 mw_661 mkq_X8_by rfl ⟨Nat.le_of_ble_eq_true rfl, Nat.le_of_ble_eq_true rfl⟩ ⟨by show (900 + 6 * t) ≤ 600000; omega, by show (1600000 + 60 * t) ≤ 7302250; omega⟩ 5 rfl rfl rfl (mk_Fr.mid2 [(z, .inr (9, [.int (nI (zd Y 0)), .int (nI (zd Y 1)), .int (nI (zd Y 4)), .int (nI (zd Y 5)), .ref aW, .ref aN, .ref aK, .ref aB, .ref xt])), (aW, .inl (cI, (zd Y 4), .inl gW)), (aN, .inl (cI, (zd Y 5), .inl gN)), (aK, .inl (cI, (zd Y 5), .inl gK)), (aB, .inl (cS, (zd Y 4), .inr (.inr (.inr (.inr fB)))))] (wChan aZ aR aT aD aY aP aC aO aA aM ++ (wReader aR aT aD uR ++ (wTape aT cI uT ++ (wPlan aD cI uD ++ (wPlay aY aP aS (mk_crs aC aO 1) cI bYa ++ (wPlan aP cI uP ++ (wStack aS cI bSa ++ (wCourse aC cI uC ++ (wCourse aO cI bOa ++ (wActs aA cI uA ++ (wMeans aM cJ uM))))))))))) V (wChan aZ aR aT aD aY aP aC aO aA aM ++ (wReader aR aT aD uR ++ (wTape aT cI uT ++ (wPlan aD cI uD ++ (wPlay aY aP aS (mk_crs aC aO 1) cI bYb ++ (wPlan aP cI uP ++ (wStack aS cI bSb ++ (wCourse aC cI uC ++ (wCourse aO cI bOb ++ (wActs aA cI uA ++ (wMeans aM cJ uM)))))))))))) (Nat.le_of_ble_eq_true rfl) dL_law_128 rfl ?_
      obtain ⟨rY, rS, rC, rA, re, rN, rT⟩ := rule_of (uQ := 1) (uY := bYb) (uP := uP) (uS := bSb) (uC := uC) (uA := uA) hB hC h0 ht3 hne hA
      refine mk_istore C (lv' := [(6, .int (byV (zd Y) t 0)), (5, .int (byV (zd Y) t 1)), (4, .int (nI t)), (3, .int (byV (zd Y) (zd Y 0) 1)), (2, .ref z), (1, .ref (aZ 0)), (0, .ref b)]) dL_law_131 (by decide) rfl ?_
      refine mk_aload_n C 5 dL_law_133 rfl ?_
      refine mk_iload C 2 dL_law_134 rfl ?_
      refine mk_callXi C (c_Z_rule l D cI cJ cB cZ cS X Y aZ aR aT aD aY aP aS aC aO aA aM 1 uR uT uD bYb uP bSb uC bOb uA uM (nI t) (byV (zd Y) t 1) 0 rY (upF 0 (nI t) uP) rS rC rA (re)) mw_665 mw_666 mw_667 mw_1 mw_668 mkq_X8_rule rfl ⟨Nat.le_of_ble_eq_true rfl, Nat.le_of_ble_eq_true rfl⟩ ⟨by show (900 + 6 * t) ≤ 600000; omega, by show (1600000 + 60 * t) ≤ 7302250; omega⟩ 5 rfl rfl rfl (mk_Fr.mid2 [(z, .inr (9, [.int (nI (zd Y 0)), .int (nI (zd Y 1)), .int (nI (zd Y 4)), .int (nI (zd Y 5)), .ref aW, .ref aN, .ref aK, .ref aB, .ref xt])), (aW, .inl (cI, (zd Y 4), .inl gW)), (aN, .inl (cI, (zd Y 5), .inl gN)), (aK, .inl (cI, (zd Y 5), .inl gK)), (aB, .inl (cS, (zd Y 4), .inr (.inr (.inr (.inr fB)))))] (wChan aZ aR aT aD aY aP aC aO aA aM ++ (wReader aR aT aD uR ++ (wTape aT cI uT ++ (wPlan aD cI uD ++ (wPlay aY aP aS (mk_crs aC aO 1) cI bYb ++ (wPlan aP cI uP ++ (wStack aS cI bSb ++ (wCourse aC cI uC ++ (wCourse aO cI bOb ++ (wActs aA cI uA ++ (wMeans aM cJ uM))))))))))) V (wChan aZ aR aT aD aY aP aC aO aA aM ++ (wReader aR aT aD uR ++ (wTape aT cI uT ++ (wPlan aD cI uD ++ (wPlay aY aP aS (mk_crs aC aO 0) cI rY ++ (wPlan aP cI (upF 0 (nI t) uP) ++ (wStack aS cI rS ++ (wCourse aC cI rC ++ (wCourse aO cI bOb ++ (wActs aA cI rA ++ (wMeans aM cJ uM)))))))))))) (Nat.le_of_ble_eq_true rfl) dL_law_136 rfl ?_
      refine mk_iload C 1 dL_law_139 rfl ?_
      refine mk_icmp_ne C 203 dL_law_141 (by decide) (fun h9 => absurd h9 (fun z => z rfl)) (fun _ => ?_)
      have hCQ : mk_CQ (upF 0 (nI t) uP) (zd Y) := mk_CQ_0 hC.Q (nI t)
      have hG := SoF_now hB hCQ h0 rN
      refine mk_aload_n C 5 dL_law_144 rfl ?_
      refine mk_callXi C (c_Z_done l D cI cJ cB cZ cS X Y aZ aR aT aD aY aP aS aC aO aA aM 0 uR uT uD rY (upF 0 (nI t) uP) rS rC bOb rA uM  (byV (zd Y) t 0)  (hG.2.2.2.2.2.2.2.2.1)) mw_632 mw_633 mw_634 mw_1 mw_635 mkq_X8_done rfl ⟨Nat.le_of_ble_eq_true rfl, Nat.le_of_ble_eq_true rfl⟩ ⟨by show (900 + 6 * t) ≤ 600000; omega, by show (1600000 + 60 * t) ≤ 7302250; omega⟩ 5 rfl rfl rfl (mk_Fr.mid2 [(z, .inr (9, [.int (nI (zd Y 0)), .int (nI (zd Y 1)), .int (nI (zd Y 4)), .int (nI (zd Y 5)), .ref aW, .ref aN, .ref aK, .ref aB, .ref xt])), (aW, .inl (cI, (zd Y 4), .inl gW)), (aN, .inl (cI, (zd Y 5), .inl gN)), (aK, .inl (cI, (zd Y 5), .inl gK)), (aB, .inl (cS, (zd Y 4), .inr (.inr (.inr (.inr fB)))))] (wChan aZ aR aT aD aY aP aC aO aA aM ++ (wReader aR aT aD uR ++ (wTape aT cI uT ++ (wPlan aD cI uD ++ (wPlay aY aP aS (mk_crs aC aO 0) cI rY ++ (wPlan aP cI (upF 0 (nI t) uP) ++ (wStack aS cI rS ++ (wCourse aC cI rC ++ (wCourse aO cI bOb ++ (wActs aA cI rA ++ (wMeans aM cJ uM))))))))))) V (wChan aZ aR aT aD aY aP aC aO aA aM ++ (wReader aR aT aD uR ++ (wTape aT cI uT ++ (wPlan aD cI uD ++ (wPlay aY aP aS (mk_crs aC aO 0) cI rY ++ (wPlan aP cI (upF 0 (nI t) uP) ++ (wStack aS cI rS ++ (wCourse aC cI rC ++ (wCourse aO cI bOb ++ (wActs aA cI rA ++ (wMeans aM cJ uM)))))))))))) (Nat.le_of_ble_eq_true rfl) dL_law_145 rfl ?_
      refine mk_iload C 0 dL_law_148 rfl ?_
      refine mk_icmp_ne C 203 dL_law_150 (by decide) (fun h9 => absurd h9 (fun z => z rfl)) (fun _ => ?_)
      refine mk_aload_n C 5 dL_law_153 rfl ?_
      refine mk_callXi C (c_Z_collided l D cI cJ cB cZ cS X Y aZ aR aT aD aY aP aS aC aO aA aM 0 uR uT uD rY (upF 0 (nI t) uP) rS rC bOb rA uM  (byV (zd Y) t 2)  (hG.2.2.2.2.2.2.2.2.2.1)) mw_641 mw_642 mw_643 mw_1 mw_644 mkq_X8_collided rfl ⟨Nat.le_of_ble_eq_true rfl, Nat.le_of_ble_eq_true rfl⟩ ⟨by show (900 + 6 * t) ≤ 600000; omega, by show (1600000 + 60 * t) ≤ 7302250; omega⟩ 5 rfl rfl rfl (mk_Fr.mid2 [(z, .inr (9, [.int (nI (zd Y 0)), .int (nI (zd Y 1)), .int (nI (zd Y 4)), .int (nI (zd Y 5)), .ref aW, .ref aN, .ref aK, .ref aB, .ref xt])), (aW, .inl (cI, (zd Y 4), .inl gW)), (aN, .inl (cI, (zd Y 5), .inl gN)), (aK, .inl (cI, (zd Y 5), .inl gK)), (aB, .inl (cS, (zd Y 4), .inr (.inr (.inr (.inr fB)))))] (wChan aZ aR aT aD aY aP aC aO aA aM ++ (wReader aR aT aD uR ++ (wTape aT cI uT ++ (wPlan aD cI uD ++ (wPlay aY aP aS (mk_crs aC aO 0) cI rY ++ (wPlan aP cI (upF 0 (nI t) uP) ++ (wStack aS cI rS ++ (wCourse aC cI rC ++ (wCourse aO cI bOb ++ (wActs aA cI rA ++ (wMeans aM cJ uM))))))))))) V (wChan aZ aR aT aD aY aP aC aO aA aM ++ (wReader aR aT aD uR ++ (wTape aT cI uT ++ (wPlan aD cI uD ++ (wPlay aY aP aS (mk_crs aC aO 0) cI rY ++ (wPlan aP cI (upF 0 (nI t) uP) ++ (wStack aS cI rS ++ (wCourse aC cI rC ++ (wCourse aO cI bOb ++ (wActs aA cI rA ++ (wMeans aM cJ uM)))))))))))) (Nat.le_of_ble_eq_true rfl) dL_law_154 rfl ?_
      refine mk_aload_n C 5 dL_law_157 rfl ?_
      refine mk_iload C 2 dL_law_158 rfl ?_
      refine mk_iconst C (v := 2) dL_law_160 (by decide) ?_
      obtain ⟨bYc, bSc, bOc, bec⟩ := by_of (uQ := 0) (uY := rY) (uP := (upF 0 (nI t) uP)) (uS := rS) (uO := bOb) hB (hCQ) h0 (l := t) ht3 (k := 2) (by decide)
      refine mk_callXi C (c_Z_by l D cI cJ cB cZ cS X Y aZ aR aT aD aY aP aS aC aO aA aM 0 uR uT uD rY (upF 0 (nI t) uP) rS rC bOb rA uM (nI t) 2 (byV (zd Y) t 2) 1 bYc bSc bOc (bec)) mw_658 mw_659 mw_660 mw_1 mw_661 mkq_X8_by rfl ⟨Nat.le_of_ble_eq_true rfl, Nat.le_of_ble_eq_true rfl⟩ ⟨by show (900 + 6 * t) ≤ 600000; omega, by show (1600000 + 60 * t) ≤ 7302250; omega⟩ 5 rfl rfl rfl (mk_Fr.mid2 [(z, .inr (9, [.int (nI (zd Y 0)), .int (nI (zd Y 1)), .int (nI (zd Y 4)), .int (nI (zd Y 5)), .ref aW, .ref aN, .ref aK, .ref aB, .ref xt])), (aW, .inl (cI, (zd Y 4), .inl gW)), (aN, .inl (cI, (zd Y 5), .inl gN)), (aK, .inl (cI, (zd Y 5), .inl gK)), (aB, .inl (cS, (zd Y 4), .inr (.inr (.inr (.inr fB)))))] (wChan aZ aR aT aD aY aP aC aO aA aM ++ (wReader aR aT aD uR ++ (wTape aT cI uT ++ (wPlan aD cI uD ++ (wPlay aY aP aS (mk_crs aC aO 0) cI rY ++ (wPlan aP cI (upF 0 (nI t) uP) ++ (wStack aS cI rS ++ (wCourse aC cI rC ++ (wCourse aO cI bOb ++ (wActs aA cI rA ++ (wMeans aM cJ uM))))))))))) V (wChan aZ aR aT aD aY aP aC aO aA aM ++ (wReader aR aT aD uR ++ (wTape aT cI uT ++ (wPlan aD cI uD ++ (wPlay aY aP aS (mk_crs aC aO 1) cI bYc ++ (wPlan aP cI (upF 0 (nI t) uP) ++ (wStack aS cI bSc ++ (wCourse aC cI rC ++ (wCourse aO cI bOc ++ (wActs aA cI rA ++ (wMeans aM cJ uM)))))))))))) (Nat.le_of_ble_eq_true rfl) dL_law_161 rfl ?_
      refine mk_icmp_ne C 203 dL_law_164 (by decide) (fun h9 => absurd h9 (fun z => z rfl)) (fun _ => ?_)
      refine mk_aload_n C 5 dL_law_167 rfl ?_
      refine mk_callXi C (c_Z_skips l D cI cJ cB cZ cS X Y aZ aR aT aD aY aP aS aC aO aA aM 1 uR uT uD bYc (upF 0 (nI t) uP) bSc rC bOc rA uM  (byV (zd Y) t 3)  (hG.2.2.2.2.2.2.2.2.2.2.1)) mw_650 mw_651 mw_652 mw_1 mw_653 mkq_X8_skips rfl ⟨Nat.le_of_ble_eq_true rfl, Nat.le_of_ble_eq_true rfl⟩ ⟨by show (900 + 6 * t) ≤ 600000; omega, by show (1600000 + 60 * t) ≤ 7302250; omega⟩ 5 rfl rfl rfl (mk_Fr.mid2 [(z, .inr (9, [.int (nI (zd Y 0)), .int (nI (zd Y 1)), .int (nI (zd Y 4)), .int (nI (zd Y 5)), .ref aW, .ref aN, .ref aK, .ref aB, .ref xt])), (aW, .inl (cI, (zd Y 4), .inl gW)), (aN, .inl (cI, (zd Y 5), .inl gN)), (aK, .inl (cI, (zd Y 5), .inl gK)), (aB, .inl (cS, (zd Y 4), .inr (.inr (.inr (.inr fB)))))] (wChan aZ aR aT aD aY aP aC aO aA aM ++ (wReader aR aT aD uR ++ (wTape aT cI uT ++ (wPlan aD cI uD ++ (wPlay aY aP aS (mk_crs aC aO 1) cI bYc ++ (wPlan aP cI (upF 0 (nI t) uP) ++ (wStack aS cI bSc ++ (wCourse aC cI rC ++ (wCourse aO cI bOc ++ (wActs aA cI rA ++ (wMeans aM cJ uM))))))))))) V (wChan aZ aR aT aD aY aP aC aO aA aM ++ (wReader aR aT aD uR ++ (wTape aT cI uT ++ (wPlan aD cI uD ++ (wPlay aY aP aS (mk_crs aC aO 1) cI bYc ++ (wPlan aP cI (upF 0 (nI t) uP) ++ (wStack aS cI bSc ++ (wCourse aC cI rC ++ (wCourse aO cI bOc ++ (wActs aA cI rA ++ (wMeans aM cJ uM)))))))))))) (Nat.le_of_ble_eq_true rfl) dL_law_168 rfl ?_
      refine mk_aload_n C 5 dL_law_171 rfl ?_
      refine mk_iload C 2 dL_law_172 rfl ?_
      refine mk_iconst C (v := 3) dL_law_174 (by decide) ?_
      obtain ⟨bYd, bSd, bOd, bed⟩ := by_of (uQ := 1) (uY := bYc) (uP := (upF 0 (nI t) uP)) (uS := bSc) (uO := bOc) hB (hCQ) h0 (l := t) ht3 (k := 3) (by decide)
      refine mk_callXi C (c_Z_by l D cI cJ cB cZ cS X Y aZ aR aT aD aY aP aS aC aO aA aM 1 uR uT uD bYc (upF 0 (nI t) uP) bSc rC bOc rA uM (nI t) 3 (byV (zd Y) t 3) 1 bYd bSd bOd (bed)) mw_658 mw_659 mw_660 mw_1 mw_661 mkq_X8_by rfl ⟨Nat.le_of_ble_eq_true rfl, Nat.le_of_ble_eq_true rfl⟩ ⟨by show (900 + 6 * t) ≤ 600000; omega, by show (1600000 + 60 * t) ≤ 7302250; omega⟩ 5 rfl rfl rfl (mk_Fr.mid2 [(z, .inr (9, [.int (nI (zd Y 0)), .int (nI (zd Y 1)), .int (nI (zd Y 4)), .int (nI (zd Y 5)), .ref aW, .ref aN, .ref aK, .ref aB, .ref xt])), (aW, .inl (cI, (zd Y 4), .inl gW)), (aN, .inl (cI, (zd Y 5), .inl gN)), (aK, .inl (cI, (zd Y 5), .inl gK)), (aB, .inl (cS, (zd Y 4), .inr (.inr (.inr (.inr fB)))))] (wChan aZ aR aT aD aY aP aC aO aA aM ++ (wReader aR aT aD uR ++ (wTape aT cI uT ++ (wPlan aD cI uD ++ (wPlay aY aP aS (mk_crs aC aO 1) cI bYc ++ (wPlan aP cI (upF 0 (nI t) uP) ++ (wStack aS cI bSc ++ (wCourse aC cI rC ++ (wCourse aO cI bOc ++ (wActs aA cI rA ++ (wMeans aM cJ uM))))))))))) V (wChan aZ aR aT aD aY aP aC aO aA aM ++ (wReader aR aT aD uR ++ (wTape aT cI uT ++ (wPlan aD cI uD ++ (wPlay aY aP aS (mk_crs aC aO 1) cI bYd ++ (wPlan aP cI (upF 0 (nI t) uP) ++ (wStack aS cI bSd ++ (wCourse aC cI rC ++ (wCourse aO cI bOd ++ (wActs aA cI rA ++ (wMeans aM cJ uM)))))))))))) (Nat.le_of_ble_eq_true rfl) dL_law_175 rfl ?_
      refine mk_icmp_ne C 203 dL_law_178 (by decide) (fun h9 => absurd h9 (fun z => z rfl)) (fun _ => ?_)
      refine mk_aload_n C 5 dL_law_181 rfl ?_
      refine mk_aload_n C 4 dL_law_182 rfl ?_
      refine mk_callS C (c_isSo l D cI cJ cB cZ cS X Y aZ aR aT aD aY aP aS aC aO aA aM 1 uR uT uD bYd (upF 0 (nI t) uP) bSd rC bOd rA uM z aW aN aK aB xt (zd Y) gW gN gK fB hz _ _ _ hG) mw_970 mw_971 mw_0 mw_972 mkq_L_isSo rfl ⟨Nat.le_of_ble_eq_true rfl, Nat.le_of_ble_eq_true rfl⟩ ⟨rfl, rfl⟩ ⟨by show (900 + 6 * t) + 3 ≤ 600000; omega, by show (1600000 + 60 * t) + 30 ≤ 7302250; omega⟩ (mk_Fr.two [(z, .inr (9, [.int (nI (zd Y 0)), .int (nI (zd Y 1)), .int (nI (zd Y 4)), .int (nI (zd Y 5)), .ref aW, .ref aN, .ref aK, .ref aB, .ref xt])), (aW, .inl (cI, (zd Y 4), .inl gW)), (aN, .inl (cI, (zd Y 5), .inl gN)), (aK, .inl (cI, (zd Y 5), .inl gK)), (aB, .inl (cS, (zd Y 4), .inr (.inr (.inr (.inr fB)))))] (wChan aZ aR aT aD aY aP aC aO aA aM ++ (wReader aR aT aD uR ++ (wTape aT cI uT ++ (wPlan aD cI uD ++ (wPlay aY aP aS (mk_crs aC aO 1) cI bYd ++ (wPlan aP cI (upF 0 (nI t) uP) ++ (wStack aS cI bSd ++ (wCourse aC cI rC ++ (wCourse aO cI bOd ++ (wActs aA cI rA ++ (wMeans aM cJ uM))))))))))) V) (Nat.le_of_ble_eq_true rfl) dL_law_183 rfl ?_
      show mk_Go p l e _ s m _ below meth c D _ 7 ((900 + 6 * t) + 3) ((1600000 + 60 * t) + 30) _ _ _ _ [.int 1]
      refine mk_if_eq C 203 dL_law_186 (by decide) (fun h9 => absurd h9 (by decide)) (fun _ => ?_)
      refine mk_iload C 2 dL_law_189 rfl ?_
      refine mk_iconst C (v := 2) dL_law_191 (by decide) ?_
      refine mk_icmp_ne C 205 dL_law_192 (by decide) (fun hc2 => ?_) (fun hc2 => ?_)
      · refine mk_aload_n C 5 dL_law_205 rfl ?_
        obtain ⟨oY, oP, oS, oC, oA, oe, oCP, oN, oA0⟩ := undo_of (uQ := 1) (uY := bYd) (uP := uP) (uS := bSd) (uC := rC) (uA := rA) (l := t) hB hC h0 rT
        refine mk_callXi C (c_Z_undo l D cI cJ cB cZ cS X Y aZ aR aT aD aY aP aS aC aO aA aM 1 uR uT uD bYd (upF 0 (nI t) uP) bSd rC bOd rA uM  0 0 oY oP oS oC oA (oe)) mw_674 mw_675 mw_676 mw_1 mw_677 mkq_X8_undo rfl ⟨Nat.le_of_ble_eq_true rfl, Nat.le_of_ble_eq_true rfl⟩ ⟨by show ((900 + 6 * t) + 3) ≤ 600000; omega, by show ((1600000 + 60 * t) + 30) ≤ 7302250; omega⟩ 5 rfl rfl rfl (mk_Fr.mid2 [(z, .inr (9, [.int (nI (zd Y 0)), .int (nI (zd Y 1)), .int (nI (zd Y 4)), .int (nI (zd Y 5)), .ref aW, .ref aN, .ref aK, .ref aB, .ref xt])), (aW, .inl (cI, (zd Y 4), .inl gW)), (aN, .inl (cI, (zd Y 5), .inl gN)), (aK, .inl (cI, (zd Y 5), .inl gK)), (aB, .inl (cS, (zd Y 4), .inr (.inr (.inr (.inr fB)))))] (wChan aZ aR aT aD aY aP aC aO aA aM ++ (wReader aR aT aD uR ++ (wTape aT cI uT ++ (wPlan aD cI uD ++ (wPlay aY aP aS (mk_crs aC aO 1) cI bYd ++ (wPlan aP cI (upF 0 (nI t) uP) ++ (wStack aS cI bSd ++ (wCourse aC cI rC ++ (wCourse aO cI bOd ++ (wActs aA cI rA ++ (wMeans aM cJ uM))))))))))) V (wChan aZ aR aT aD aY aP aC aO aA aM ++ (wReader aR aT aD uR ++ (wTape aT cI uT ++ (wPlan aD cI uD ++ (wPlay aY aP aS (mk_crs aC aO 0) cI oY ++ (wPlan aP cI oP ++ (wStack aS cI oS ++ (wCourse aC cI oC ++ (wCourse aO cI bOd ++ (wActs aA cI oA ++ (wMeans aM cJ uM)))))))))))) (Nat.le_of_ble_eq_true rfl) dL_law_206 rfl ?_
        refine mk_if_eq C 214 dL_law_209 (by decide) (fun _ => ?_) (fun h9 => absurd (rfl) h9)
        refine mk_iinc C 2 (v := nI (t + 1)) (lv' := [(4, .int (nI (t + 1))), (6, .int (byV (zd Y) t 0)), (5, .int (byV (zd Y) t 1)), (3, .int (byV (zd Y) (zd Y 0) 1)), (2, .ref z), (1, .ref (aZ 0)), (0, .ref b)]) dL_law_214 rfl (nI_1 t) (by decide) rfl ?_
        refine mk_goto C 81 dL_law_217 (by decide) ?_
        refine mk_widen (k := (900 + 6 * (t + 1))) (n := (1600000 + 60 * (t + 1))) (by omega) (by omega) ?_
        exact mk_lvsub [0, 3, 4, 5, 6] rfl (ih (t + 1) 0 oY oP oS oC bOd oA (by omega) oCP oN oA0)
      · have hc2 : t = 2 := pu_inj (by omega) (by decide) hc2
        refine mk_aload_n C 5 dL_law_195 rfl ?_
        refine mk_aload_n C 4 dL_law_196 rfl ?_
        refine mk_callSG (wr := V) (wc := ([(z, .inr (9, [.int (nI (zd Y 0)), .int (nI (zd Y 1)), .int (nI (zd Y 4)), .int (nI (zd Y 5)), .ref aW, .ref aN, .ref aK, .ref aB, .ref xt])), (aW, .inl (cI, (zd Y 4), .inl gW)), (aN, .inl (cI, (zd Y 5), .inl gN)), (aK, .inl (cI, (zd Y 5), .inl gK)), (aB, .inl (cS, (zd Y 4), .inr (.inr (.inr (.inr fB)))))] ++ (wChan aZ aR aT aD aY aP aC aO aA aM ++ (wReader aR aT aD uR ++ (wTape aT cI uT ++ (wPlan aD cI uD ++ (wPlay aY aP aS (mk_crs aC aO 1) cI bYd ++ (wPlan aP cI (upF 0 (nI t) uP) ++ (wStack aS cI bSd ++ (wCourse aC cI rC ++ (wCourse aO cI bOd ++ (wActs aA cI rA ++ (wMeans aM cJ uM))))))))))))) C (c_isC l D cI cJ cB cZ cS X' Y' aZ aR aT aD aY aP aS aC aO aA aM 1 uR uT uD bYd (upF 0 (nI t) uP) bSd rC bOd rA uM z aW aN aK aB xt (zd Y) gW gN gK fB hz hzb hSp (SoC_now hB hCQ h0 (by rw [hc2] at rN; exact rN))).G mw_1026 mw_1027 mw_0 mw_1028 mkq_L_isCounted rfl ⟨Nat.le_of_ble_eq_true rfl, Nat.le_of_ble_eq_true rfl⟩ ⟨rfl, rfl⟩ ⟨by show ((900 + 6 * t) + 3) + 3 ≤ 600000; omega, by show ((1600000 + 60 * t) + 30) + 30 ≤ 7302250; omega⟩ (mk_pN [(z, .inr (9, [.int (nI (zd Y 0)), .int (nI (zd Y 1)), .int (nI (zd Y 4)), .int (nI (zd Y 5)), .ref aW, .ref aN, .ref aK, .ref aB, .ref xt])), (aW, .inl (cI, (zd Y 4), .inl gW)), (aN, .inl (cI, (zd Y 5), .inl gN)), (aK, .inl (cI, (zd Y 5), .inl gK)), (aB, .inl (cS, (zd Y 4), .inr (.inr (.inr (.inr fB)))))] (wChan aZ aR aT aD aY aP aC aO aA aM ++ (wReader aR aT aD uR ++ (wTape aT cI uT ++ (wPlan aD cI uD ++ (wPlay aY aP aS (mk_crs aC aO 1) cI bYd ++ (wPlan aP cI (upF 0 (nI t) uP) ++ (wStack aS cI bSd ++ (wCourse aC cI rC ++ (wCourse aO cI bOd ++ (wActs aA cI rA ++ (wMeans aM cJ uM))))))))))) V) hXt (Nat.le_of_ble_eq_true rfl) dL_law_197 rfl (fun _ _ => ?_)
        refine mk_perm (ws' := ([(z, .inr (9, [.int (nI (zd Y 0)), .int (nI (zd Y 1)), .int (nI (zd Y 4)), .int (nI (zd Y 5)), .ref aW, .ref aN, .ref aK, .ref aB, .ref xt])), (aW, .inl (cI, (zd Y 4), .inl gW)), (aN, .inl (cI, (zd Y 5), .inl gN)), (aK, .inl (cI, (zd Y 5), .inl gK)), (aB, .inl (cS, (zd Y 4), .inr (.inr (.inr (.inr fB)))))] ++ ((wChan aZ aR aT aD aY aP aC aO aA aM ++ (wReader aR aT aD uR ++ (wTape aT cI uT ++ (wPlan aD cI uD ++ (wPlay aY aP aS (mk_crs aC aO 1) cI bYd ++ (wPlan aP cI (upF 0 (nI t) uP) ++ (wStack aS cI bSd ++ (wCourse aC cI rC ++ (wCourse aO cI bOd ++ (wActs aA cI rA ++ (wMeans aM cJ uM))))))))))) ++ V))) (mk_pN [(z, .inr (9, [.int (nI (zd Y 0)), .int (nI (zd Y 1)), .int (nI (zd Y 4)), .int (nI (zd Y 5)), .ref aW, .ref aN, .ref aK, .ref aB, .ref xt])), (aW, .inl (cI, (zd Y 4), .inl gW)), (aN, .inl (cI, (zd Y 5), .inl gN)), (aK, .inl (cI, (zd Y 5), .inl gK)), (aB, .inl (cS, (zd Y 4), .inr (.inr (.inr (.inr fB)))))] (wChan aZ aR aT aD aY aP aC aO aA aM ++ (wReader aR aT aD uR ++ (wTape aT cI uT ++ (wPlan aD cI uD ++ (wPlay aY aP aS (mk_crs aC aO 1) cI bYd ++ (wPlan aP cI (upF 0 (nI t) uP) ++ (wStack aS cI bSd ++ (wCourse aC cI rC ++ (wCourse aO cI bOd ++ (wActs aA cI rA ++ (wMeans aM cJ uM))))))))))) V).symm ?_
        show mk_Go p l e _ s m _ below meth c D _ 7 (((900 + 6 * t) + 3) + 3) (((1600000 + 60 * t) + 30) + 30) _ _ _ _ [.int 1]
        refine mk_if_ne C 205 dL_law_200 (by decide) (fun _ => ?_) (fun h9 => absurd h9 (by decide))
        refine mk_aload_n C 5 dL_law_205 rfl ?_
        obtain ⟨oY, oP, oS, oC, oA, oe, oCP, oN, oA0⟩ := undo_of (uQ := 1) (uY := bYd) (uP := uP) (uS := bSd) (uC := rC) (uA := rA) (l := t) hB hC h0 rT
        refine mk_callXi C (c_Z_undo l D cI cJ cB cZ cS X Y aZ aR aT aD aY aP aS aC aO aA aM 1 uR uT uD bYd (upF 0 (nI t) uP) bSd rC bOd rA uM  0 0 oY oP oS oC oA (oe)) mw_674 mw_675 mw_676 mw_1 mw_677 mkq_X8_undo rfl ⟨Nat.le_of_ble_eq_true rfl, Nat.le_of_ble_eq_true rfl⟩ ⟨by show (((900 + 6 * t) + 3) + 3) ≤ 600000; omega, by show (((1600000 + 60 * t) + 30) + 30) ≤ 7302250; omega⟩ 5 rfl rfl rfl (mk_Fr.mid2 [(z, .inr (9, [.int (nI (zd Y 0)), .int (nI (zd Y 1)), .int (nI (zd Y 4)), .int (nI (zd Y 5)), .ref aW, .ref aN, .ref aK, .ref aB, .ref xt])), (aW, .inl (cI, (zd Y 4), .inl gW)), (aN, .inl (cI, (zd Y 5), .inl gN)), (aK, .inl (cI, (zd Y 5), .inl gK)), (aB, .inl (cS, (zd Y 4), .inr (.inr (.inr (.inr fB)))))] (wChan aZ aR aT aD aY aP aC aO aA aM ++ (wReader aR aT aD uR ++ (wTape aT cI uT ++ (wPlan aD cI uD ++ (wPlay aY aP aS (mk_crs aC aO 1) cI bYd ++ (wPlan aP cI (upF 0 (nI t) uP) ++ (wStack aS cI bSd ++ (wCourse aC cI rC ++ (wCourse aO cI bOd ++ (wActs aA cI rA ++ (wMeans aM cJ uM))))))))))) V (wChan aZ aR aT aD aY aP aC aO aA aM ++ (wReader aR aT aD uR ++ (wTape aT cI uT ++ (wPlan aD cI uD ++ (wPlay aY aP aS (mk_crs aC aO 0) cI oY ++ (wPlan aP cI oP ++ (wStack aS cI oS ++ (wCourse aC cI oC ++ (wCourse aO cI bOd ++ (wActs aA cI oA ++ (wMeans aM cJ uM)))))))))))) (Nat.le_of_ble_eq_true rfl) dL_law_206 rfl ?_
        refine mk_if_eq C 214 dL_law_209 (by decide) (fun _ => ?_) (fun h9 => absurd (rfl) h9)
        refine mk_iinc C 2 (v := nI (t + 1)) (lv' := [(4, .int (nI (t + 1))), (6, .int (byV (zd Y) t 0)), (5, .int (byV (zd Y) t 1)), (3, .int (byV (zd Y) (zd Y 0) 1)), (2, .ref z), (1, .ref (aZ 0)), (0, .ref b)]) dL_law_214 rfl (nI_1 t) (by decide) rfl ?_
        refine mk_goto C 81 dL_law_217 (by decide) ?_
        refine mk_widen (k := (900 + 6 * (t + 1))) (n := (1600000 + 60 * (t + 1))) (by omega) (by omega) ?_
        exact mk_lvsub [0, 3, 4, 5, 6] rfl (ih (t + 1) 0 oY oP oS oC bOd oA (by omega) oCP oN oA0)
    · have hc : t = zd Y 0 := pu_inj (by omega) (by omega) hc
      refine mk_aload_n C 4 dL_law_105 rfl ?_
      refine mk_iload C 1 dL_law_106 rfl ?_
      refine mk_callXi C (c_Z_rule l D cI cJ cB cZ cS X Y aZ aR aT aD aY aP aS aC aO aA aM 1 uR uT uD bYa uP bSa uC bOa uA uM (nI t) (-5) 1 bYa uP bSa uC uA (by rw [hc]; exact rule_same hB hC h0)) mw_665 mw_666 mw_667 mw_1 mw_668 mkq_X8_rule rfl ⟨Nat.le_of_ble_eq_true rfl, Nat.le_of_ble_eq_true rfl⟩ ⟨by show (900 + 6 * t) ≤ 600000; omega, by show (1600000 + 60 * t) ≤ 7302250; omega⟩ 5 rfl rfl rfl (mk_Fr.mid2 [(z, .inr (9, [.int (nI (zd Y 0)), .int (nI (zd Y 1)), .int (nI (zd Y 4)), .int (nI (zd Y 5)), .ref aW, .ref aN, .ref aK, .ref aB, .ref xt])), (aW, .inl (cI, (zd Y 4), .inl gW)), (aN, .inl (cI, (zd Y 5), .inl gN)), (aK, .inl (cI, (zd Y 5), .inl gK)), (aB, .inl (cS, (zd Y 4), .inr (.inr (.inr (.inr fB)))))] (wChan aZ aR aT aD aY aP aC aO aA aM ++ (wReader aR aT aD uR ++ (wTape aT cI uT ++ (wPlan aD cI uD ++ (wPlay aY aP aS (mk_crs aC aO 1) cI bYa ++ (wPlan aP cI uP ++ (wStack aS cI bSa ++ (wCourse aC cI uC ++ (wCourse aO cI bOa ++ (wActs aA cI uA ++ (wMeans aM cJ uM))))))))))) V (wChan aZ aR aT aD aY aP aC aO aA aM ++ (wReader aR aT aD uR ++ (wTape aT cI uT ++ (wPlan aD cI uD ++ (wPlay aY aP aS (mk_crs aC aO 1) cI bYa ++ (wPlan aP cI uP ++ (wStack aS cI bSa ++ (wCourse aC cI uC ++ (wCourse aO cI bOa ++ (wActs aA cI uA ++ (wMeans aM cJ uM)))))))))))) (Nat.le_of_ble_eq_true rfl) dL_law_108 rfl ?_
      refine mk_bipush C (v := (-5)) dL_law_111 (by decide) ?_
      refine mk_icmp_ne C 122 dL_law_113 (by decide) (fun h9 => absurd h9 (fun z => z rfl)) (fun _ => ?_)
      refine mk_iload C 0 dL_law_116 rfl ?_
      refine mk_iload_n C 2 dL_law_118 rfl ?_
      refine mk_icmp_eq C 214 dL_law_119 (by decide) (fun _ => ?_) (fun h9 => absurd (by rw [hc]) h9)
      refine mk_iinc C 1 (v := nI (t + 1)) (lv' := [(4, .int (nI (t + 1))), (5, .int (byV (zd Y) t 1)), (3, .int (byV (zd Y) (zd Y 0) 1)), (2, .ref z), (1, .ref (aZ 0)), (0, .ref b)]) dL_law_214 rfl (nI_1 t) (by decide) rfl ?_
      refine mk_goto C 81 dL_law_217 (by decide) ?_
      refine mk_widen (k := (900 + 6 * (t + 1))) (n := (1600000 + 60 * (t + 1))) (by omega) (by omega) ?_
      exact mk_lvsub [0, 2, 3, 4, 5] rfl (ih (t + 1) 1 bYa uP bSa uC bOa uA (by omega) hC hN hA)
