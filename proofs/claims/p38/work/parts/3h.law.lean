theorem mkq_X8_end : mk_nm yX8_end 1 := by decide +kernel
theorem mkq_X8_feed : mk_nm yX8_feed 5 := by decide +kernel
def by_ (p : Int32) (k : Nat) : Int32 := nI (p.toBitVec.toNat / 2 ^ (24 - 8 * k) % 256)
theorem q_shb (p s : Int32) (k : Nat) (hk : k = 24 ∨ k = 16 ∨ k = 8 ∨ k = 0) (hs : (s.toBitVec.smod 32).toNat = k) : (p >>> s) &&& 255 = nI (p.toBitVec.toNat / 2 ^ k % 256) := by
  rw [pk_and (p >>> s) 8 (m := 255) rfl]
  have h1 := pk_shr p s k hs
  have e1 : ∀ x : Int32, x.toInt = if 2 * x.toBitVec.toNat < 2 ^ 32 then (x.toBitVec.toNat : Int) else (x.toBitVec.toNat : Int) - (2 ^ 32 : Nat) := fun x => BitVec.toInt_eq_toNat_cond x.toBitVec
  have b1 : p.toBitVec.toNat < 2 ^ 32 := p.toBitVec.isLt
  have b2 : (p >>> s).toBitVec.toNat < 2 ^ 32 := (p >>> s).toBitVec.isLt
  rw [Int.shiftRight_eq_div_pow, e1 p, e1 (p >>> s)] at h1
  generalize (p >>> s).toBitVec.toNat = U at *
  generalize p.toBitVec.toNat = T at *
  congr 1
  rcases hk with rfl | rfl | rfl | rfl
  · split at h1 <;> split at h1 <;> omega
  · split at h1 <;> split at h1 <;> omega
  · split at h1 <;> split at h1 <;> omega
  · split at h1 <;> split at h1 <;> omega
theorem q_ap1 (p v : Int32) {n tl : Nat} {u : Nat → Nat → Int32} (h : u 1 0 = nI tl) (ht : tl < 500) (hv : ¬ v < 0) : f_T_append_3 p (n + 1) v u = f_T_append_3 p n (v + (-8)) (upF 1 (nI (tl + 1)) (upR 0 (upd (u 0) tl ((p >>> (v &&& 31)) &&& 255)) u)) := by
  rw [f_T_append_3, if_neg hv, h, mkPut_ok ht (by omega), pu_one]
theorem q_append (p : Int32) {tl : Nat} {u : Nat → Nat → Int32} (h : u 1 0 = nI tl) (ht : tl + 4 ≤ 500) : ∃ w, f_T_append u p = some w ∧ w 1 0 = nI (tl + 4) ∧ (∀ j, j < tl → w 0 j = u 0 j) ∧ (∀ k, k < 4 → w 0 (tl + k) = by_ p k) := by
  unfold f_T_append
  rw [q_ap1 p 24 h (by omega) (by decide), q_ap1 p (24 + (-8)) (tl := tl + 1) rfl (by omega) (by decide), q_ap1 p (24 + (-8) + (-8)) (tl := tl + 1 + 1) rfl (by omega) (by decide), q_ap1 p (24 + (-8) + (-8) + (-8)) (tl := tl + 1 + 1 + 1) rfl (by omega) (by decide), f_T_append_3, if_pos (by decide)]
  refine ⟨_, rfl, rfl, fun j hj => ?_, fun k hk => ?_⟩
  · show upd (upd (upd (upd (u 0) tl _) (tl + 1) _) (tl + 1 + 1) _) (tl + 1 + 1 + 1) _ j = _
    rw [upd_n (by omega), upd_n (by omega), upd_n (by omega), upd_n (by omega)]
  · show upd (upd (upd (upd (u 0) tl _) (tl + 1) _) (tl + 1 + 1) _) (tl + 1 + 1 + 1) _ (tl + k) = _
    unfold by_
    have hk' : k = 0 ∨ k = 1 ∨ k = 2 ∨ k = 3 := by omega
    rcases hk' with rfl | rfl | rfl | rfl
    · rw [upd_n (by omega), upd_n (by omega), upd_n (by omega), Nat.add_zero, upd_s]
      exact q_shb p _ 24 (by decide) (by decide)
    · rw [upd_n (by omega), upd_n (by omega), upd_s]
      exact q_shb p _ 16 (by decide) (by decide)
    · rw [upd_n (by omega), show tl + 2 = tl + 1 + 1 from rfl, upd_s]
      exact q_shb p _ 8 (by decide) (by decide)
    · rw [show tl + 3 = tl + 1 + 1 + 1 from rfl, upd_s]
      exact q_shb p _ 0 (by decide) (by decide)
theorem q_fd (p : Nat → Int32) {tl : Nat} {u : Nat → Nat → Int32} (t1 : u 1 0 = nI tl) (q : tl + 20 ≤ 500) : ∃ w, f_Z_feed u (p 0) (p 1) (p 2) (p 3) (p 4) = some (nI (tl + 20), w) ∧ w 1 0 = nI (tl + 20) ∧ (∀ j, j < tl → w 0 j = u 0 j) ∧ (∀ m, m < 20 → w 0 (tl + m) = by_ (p (m / 4)) (m % 4)) := by
  unfold f_Z_feed
  rw [t1, show nI tl + 20 = nI (tl + 20) from pu_add tl 20]
  rw [if_pos (show nI (tl + 20) ≤ 500 from le_t (b := 500) q (by omega))]
  obtain ⟨u1, a1, b1', c1, d1⟩ := q_append (p 0) t1 (by omega)
  obtain ⟨u2, a2, b2', c2, d2⟩ := q_append (p 1) b1' (by omega)
  obtain ⟨u3, a3, b3', c3, d3⟩ := q_append (p 2) b2' (by omega)
  obtain ⟨u4, a4, b4', c4, d4⟩ := q_append (p 3) b3' (by omega)
  obtain ⟨u5, a5, b5', c5, d5⟩ := q_append (p 4) b4' (by omega)
  rw [a1, b1_k, a2, b1_k, a3, b1_k, a4, b1_k, a5, b1_k, b5']
  refine ⟨u5, rfl, b5', fun j hj => by rw [c5 j (by omega), c4 j (by omega), c3 j (by omega), c2 j (by omega), c1 j hj], fun m hm => ?_⟩
  by_cases z1 : m < 4
  · rw [c5 _ (by omega), c4 _ (by omega), c3 _ (by omega), c2 _ (by omega), d1 m z1, show m / 4 = 0 by omega, show m % 4 = m by omega]
  by_cases z2 : m < 8
  · rw [c5 _ (by omega), c4 _ (by omega), c3 _ (by omega), show tl + m = tl + 4 + (m - 4) by omega, d2 (m - 4) (by omega), show m / 4 = 1 by omega, show m % 4 = m - 4 by omega]
  by_cases z3 : m < 12
  · rw [c5 _ (by omega), c4 _ (by omega), show tl + m = tl + 4 + 4 + (m - 8) by omega, d3 (m - 8) (by omega), show m / 4 = 2 by omega, show m % 4 = m - 8 by omega]
  by_cases z4 : m < 16
  · rw [c5 _ (by omega), show tl + m = tl + 4 + 4 + 4 + (m - 12) by omega, d4 (m - 12) (by omega), show m / 4 = 3 by omega, show m % 4 = m - 12 by omega]
  · rw [show tl + m = tl + 4 + 4 + 4 + 4 + (m - 16) by omega, d5 (m - 16) (by omega), show m / 4 = 4 by omega, show m % 4 = m - 16 by omega]
/-- the j-th word of five, after k letters -/
def wdN (b : Nat → Nat) : Nat → Nat → Nat
  | 0, _ => 0
  | k + 1, j => if j = k / 4 then wdN b k j * 256 + b k else wdN b k j
theorem wd_lt {b : Nat → Nat} (hb : ∀ k, b k < 256) (j : Nat) : ∀ k, wdN b k j < 256 ^ (k - 4 * j)
  | 0 => Nat.pow_pos (by decide)
  | k + 1 => by
    have ih := wd_lt hb j k
    have h0 := hb k
    unfold wdN
    split
    · rename_i e
      rw [show k + 1 - 4 * j = (k - 4 * j) + 1 by omega, Nat.pow_succ]
      omega
    · exact Nat.lt_of_lt_of_le ih (Nat.pow_le_pow_right (by decide) (by omega))
theorem wd_24 {b : Nat → Nat} (hb : ∀ k, b k < 256) (k : Nat) : wdN b k (k / 4) < 2 ^ 24 := by
  refine Nat.lt_of_lt_of_le (wd_lt hb (k / 4) k) (Nat.le_trans (Nat.pow_le_pow_right (by decide) (show k - 4 * (k / 4) ≤ 3 by omega)) (by decide))
theorem nI_or (a b : Nat) (ha : a < 2 ^ 24) (hb : b < 256) : (nI a <<< (8 &&& 31)) ||| nI b = nI (a * 256 + b) := by
  rw [pk_shlN (8 &&& 31) 8 (by decide) (by omega)]
  have e : a * 2 ^ 8 + b = a * 2 ^ 8 ||| b := by
    have := Nat.shiftLeft_add_eq_or_of_lt (i := 8) (b := b) hb a
    rw [Nat.shiftLeft_eq] at this
    exact this
  show _ = nI (a * 2 ^ 8 + b)
  rw [e]
  exact Int32.toBitVec_inj.mp (show BitVec.ofNat 32 _ ||| BitVec.ofNat 32 _ = BitVec.ofNat 32 _ from BitVec.ofNat_or.symm)
def byN (n : Nat) (t : Nat → Nat) (j : Nat) : Nat := if j < n then t j else 32
theorem wd_by {b : Nat → Nat} (hb : ∀ k, b k < 128) : ∀ m, m < 20 → by_ (nI (wdN b 20 (m / 4))) (m % 4) = nI (b m) := by
  intro m hm
  have key : ∀ x y z w : Nat, x < 128 → y < 128 → z < 128 → w < 128 → ∀ k, k < 4 → by_ (nI (((x * 256 + y) * 256 + z) * 256 + w)) k = nI (if k = 0 then x else if k = 1 then y else if k = 2 then z else w) := by
    intro x y z w hx hy hz hw k hk
    unfold by_
    have e : (nI (((x * 256 + y) * 256 + z) * 256 + w)).toBitVec.toNat = ((x * 256 + y) * 256 + z) * 256 + w := by
      show (BitVec.ofNat 32 _).toNat = _
      rw [BitVec.toNat_ofNat]
      exact Nat.mod_eq_of_lt (by omega)
    rw [e]
    have hk' : k = 0 ∨ k = 1 ∨ k = 2 ∨ k = 3 := by omega
    rcases hk' with rfl | rfl | rfl | rfl
    · rw [if_pos rfl]; congr 1; omega
    · rw [if_neg (by decide), if_pos rfl]; congr 1; omega
    · rw [if_neg (by decide), if_neg (by decide), if_pos rfl]; congr 1; omega
    · rw [if_neg (by decide), if_neg (by decide), if_neg (by decide)]; congr 1; omega
  have e0 : wdN b 20 0 = (((0 * 256 + b 0) * 256 + b 1) * 256 + b 2) * 256 + b 3 := rfl
  have e1 : wdN b 20 1 = (((0 * 256 + b 4) * 256 + b 5) * 256 + b 6) * 256 + b 7 := rfl
  have e2 : wdN b 20 2 = (((0 * 256 + b 8) * 256 + b 9) * 256 + b 10) * 256 + b 11 := rfl
  have e3 : wdN b 20 3 = (((0 * 256 + b 12) * 256 + b 13) * 256 + b 14) * 256 + b 15 := rfl
  have e4 : wdN b 20 4 = (((0 * 256 + b 16) * 256 + b 17) * 256 + b 18) * 256 + b 19 := rfl
  rw [Nat.zero_mul, Nat.zero_add] at e0 e1 e2 e3 e4
  have hq : m / 4 = 0 ∨ m / 4 = 1 ∨ m / 4 = 2 ∨ m / 4 = 3 ∨ m / 4 = 4 := by omega
  have hr : m % 4 < 4 := by omega
  have fin : ∀ c, m / 4 = c → (if m % 4 = 0 then b (4 * c) else if m % 4 = 1 then b (4 * c + 1) else if m % 4 = 2 then b (4 * c + 2) else b (4 * c + 3)) = b m := by
    intro c hc
    have hr' : m % 4 = 0 ∨ m % 4 = 1 ∨ m % 4 = 2 ∨ m % 4 = 3 := by omega
    rcases hr' with h | h | h | h
    · rw [if_pos h]; congr 1; omega
    · rw [if_neg (by omega), if_pos h]; congr 1; omega
    · rw [if_neg (by omega), if_neg (by omega), if_pos h]; congr 1; omega
    · rw [if_neg (by omega), if_neg (by omega), if_neg (by omega)]; congr 1; omega
  rcases hq with q | q | q | q | q
  · rw [q, e0, key _ _ _ _ (hb _) (hb _) (hb _) (hb _) _ hr]; exact congrArg nI (fin 0 q)
  · rw [q, e1, key _ _ _ _ (hb _) (hb _) (hb _) (hb _) _ hr]; exact congrArg nI (fin 1 q)
  · rw [q, e2, key _ _ _ _ (hb _) (hb _) (hb _) (hb _) _ hr]; exact congrArg nI (fin 2 q)
  · rw [q, e3, key _ _ _ _ (hb _) (hb _) (hb _) (hb _) _ hr]; exact congrArg nI (fin 3 q)
  · rw [q, e4, key _ _ _ _ (hb _) (hb _) (hb _) (hb _) _ hr]; exact congrArg nI (fin 4 q)
set_option maxHeartbeats 4000000 in
set_option maxRecDepth 100000 in
theorem sy_in {p : Program} {l : Launch} {e : Env} {s : State} {m : MethodId} {args : Array Value} {below : List Frame} {meth : Method} {c : Code} {D : va_G} {A : Nat → Prop} {cI cJ cB cZ cS : ClassId} {X : Nat → Nat} {Y : mk_Y} (C : mk_Cx p s m args c cL_says 5 RL D (mk_TY cI cJ cB cZ cS) X Y A) {Q : State → Prop} {aZ aR aT aD aY aP aS aC aO aA aM : Nat → Nat} {uQ : Nat} {uR uT uD uY uP uS uC uO uA : Nat → Nat → Int32} {uM : Nat → Nat → Int64} {k0 n : Nat} (hSp : ∀ k, mk_Sp (Y.1 k)) (hn : (Y.1 k0).2.1 = n) (hn4 : n ≤ 460) {q a cc ss : Nat} (hc : cc ≤ 25) (hs : ss ≤ 125) (ha : a < 480) (hby : ∀ j, byN n (Y.1 k0).2.2 j < 128) (KI : ∀ f : Nat → Int32, (∀ i, i < 5 → f i = nI (wdN (fun j => byN n (Y.1 k0).2.2 (a + j)) 20 i)) → mk_Go p l e ({ frames := 6, cells := 25, slots := 125, locals := 181 }) s m args below meth c D A 5 cc ss Q 70 ([(q, .inl (cI, 5, .inl f))] ++ (wChan aZ aR aT aD aY aP aC aO aA aM ++ (wReader aR aT aD uR ++ (wTape aT cI uT ++ (wPlan aD cI uD ++ (wPlay aY aP aS (mk_crs aC aO uQ) cI uY ++ (wPlan aP cI uP ++ (wStack aS cI uS ++ (wCourse aC cI uC ++ (wCourse aO cI uO ++ (wActs aA cI uA ++ (wMeans aM cJ uM)))))))))))) [(3, .ref q), (2, .int (nI a)), (1, .ref (X k0)), (0, .ref (aZ 0))] []) : ∀ k j f, j + k = 20 → (∀ i, i < 5 → f i = nI (wdN (fun j => byN n (Y.1 k0).2.2 (a + j)) j i)) → mk_Go p l e ({ frames := 6, cells := 25, slots := 125, locals := 181 }) s m args below meth c D A 5 cc ss Q 17 ([(q, .inl (cI, 5, .inl f))] ++ (wChan aZ aR aT aD aY aP aC aO aA aM ++ (wReader aR aT aD uR ++ (wTape aT cI uT ++ (wPlan aD cI uD ++ (wPlay aY aP aS (mk_crs aC aO uQ) cI uY ++ (wPlan aP cI uP ++ (wStack aS cI uS ++ (wCourse aC cI uC ++ (wCourse aO cI uO ++ (wActs aA cI uA ++ (wMeans aM cJ uM)))))))))))) [(4, .int (nI j)), (3, .ref q), (2, .int (nI a)), (1, .ref (X k0)), (0, .ref (aZ 0))] [] := by
  intro k
  induction k with
  | zero =>
    intro j f hj h5
    obtain rfl : j = 20 := by omega
    refine mk_iload C 0 dL_says_17 rfl ?_
    refine mk_bipush C (v := 20) dL_says_19 (by decide) ?_
    refine mk_icmp_ge C 70 dL_says_21 (by decide) (fun _ => ?_) (fun h9 => absurd (by decide) h9)
    exact mk_lvsub [1, 2, 3, 4] rfl (KI f h5)
  | succ k ih =>
    intro j f hj h5
    have hj4 : j / 4 < 5 := by omega
    have hbb : ∀ m, (fun j => byN n (Y.1 k0).2.2 (a + j)) m < 256 := fun m => by have := hby (a + m); show byN n (Y.1 k0).2.2 (a + m) < 256; omega
    have hw := wd_24 hbb j
    refine mk_iload C 0 dL_says_17 rfl ?_
    refine mk_bipush C (v := 20) dL_says_19 (by decide) ?_
    refine mk_icmp_ge C 70 dL_says_21 (by decide) (fun h9 => absurd h9 ((jk_nle (by omega) (by decide) : ¬ nI 20 ≤ nI j))) (fun _ => ?_)
    refine mk_aload_n C 1 dL_says_24 rfl ?_
    refine mk_iload C 0 dL_says_25 rfl ?_
    refine mk_iconst C (v := 4) dL_says_27 (by decide) ?_
    refine mk_idiv C dL_says_28 (by decide) ?_
    refine mk_topi (y := nI (j / 4)) (pk_div (by omega) (by decide) (by decide)) ?_
    refine mk_aload_n C 1 dL_says_29 rfl ?_
    refine mk_iload C 0 dL_says_30 rfl ?_
    refine mk_iconst C (v := 4) dL_says_32 (by decide) ?_
    refine mk_idiv C dL_says_33 (by decide) ?_
    refine mk_topi (y := nI (j / 4)) (pk_div (by omega) (by decide) (by decide)) ?_
    refine mk_iald C 0 0 (f := f) rfl rfl (vp_in_nI hj4 (by decide)) (j := (j / 4)) (nI_clamp (by omega)) dL_says_34 ?_
    refine mk_topi (y := nI (wdN (fun j => byN n (Y.1 k0).2.2 (a + j)) j (j / 4))) (h5 _ hj4) ?_
    refine mk_bipush C (v := 8) dL_says_35 (by decide) ?_
    refine mk_ishl C dL_says_37 ?_
    refine mk_iload_n C 2 dL_says_38 rfl ?_
    refine mk_iload C 0 dL_says_39 rfl ?_
    refine mk_iadd C dL_says_41 ?_
    refine mk_topi (y := nI (a + j)) (nI_add _ _) ?_
    refine mk_aload_n C 3 dL_says_42 rfl ?_
    refine mk_callXe C (c_slenG l D cI cJ cB cZ cS X Y k0) mw_955 mw_395 mw_396 mw_13 mw_397 mkq_J0_length_8abf5 rfl ⟨Nat.le_of_ble_eq_true rfl, Nat.le_of_ble_eq_true rfl⟩ ⟨hc, hs⟩ rfl (Nat.le_of_ble_eq_true rfl) dL_says_43 rfl ?_
    refine mk_topi (y := nI n) (by rw [hn]) ?_
    refine mk_icmp_ge C 60 dL_says_46 (by decide) (fun hq => ?_) (fun hq => ?_)
    · refine mk_bipush C (v := 32) dL_says_60 (by decide) ?_
      have eb : byN n (Y.1 k0).2.2 (a + j) = 32 := by unfold byN; rw [if_neg (fun y => (jk_nle y (by omega)) hq)]
      refine mk_ior C dL_says_62 ?_
      refine mk_topi (y := nI (wdN (fun j => byN n (Y.1 k0).2.2 (a + j)) (j + 1) (j / 4))) (by rw [wdN, if_pos rfl]; show _ = nI (_ * 256 + byN n (Y.1 k0).2.2 (a + j)); rw [eb]; exact nI_or _ 32 hw (by decide)) ?_
      refine mk_iast C 0 0 (f := f) rfl rfl (vp_in_nI hj4 (by decide)) (j := (j / 4)) (nI_clamp (by omega)) (ws' := ([(q, .inl (cI, 5, .inl (upd f (j / 4) (nI (wdN (fun j => byN n (Y.1 k0).2.2 (a + j)) (j + 1) (j / 4))))))] ++ (wChan aZ aR aT aD aY aP aC aO aA aM ++ (wReader aR aT aD uR ++ (wTape aT cI uT ++ (wPlan aD cI uD ++ (wPlay aY aP aS (mk_crs aC aO uQ) cI uY ++ (wPlan aP cI uP ++ (wStack aS cI uS ++ (wCourse aC cI uC ++ (wCourse aO cI uO ++ (wActs aA cI uA ++ (wMeans aM cJ uM))))))))))))) rfl dL_says_63 ?_
      refine mk_iinc C 0 (v := nI (j + 1)) (lv' := [(4, .int (nI (j + 1))), (3, .ref q), (2, .int (nI a)), (1, .ref (X k0)), (0, .ref (aZ 0))]) dL_says_64 rfl (nI_1 j) (by decide) rfl ?_
      refine mk_goto C 17 dL_says_67 (by decide) ?_
      refine mk_lvsub [0, 1, 2, 3, 4] rfl (ih (j + 1) (upd f (j / 4) (nI (wdN (fun j => byN n (Y.1 k0).2.2 (a + j)) (j + 1) (j / 4)))) (by omega) (fun i hi => ?_))
      by_cases e : i = j / 4
      · subst e; rw [pk_us]
      · rw [pk_un e, h5 i hi, wdN, if_neg e]
    · have hlt : a + j < n := Nat.lt_of_not_le (fun y => hq (nI_le y (by omega)))
      refine mk_aload_n C 3 dL_says_49 rfl ?_
      refine mk_iload_n C 2 dL_says_50 rfl ?_
      refine mk_iload C 0 dL_says_51 rfl ?_
      refine mk_iadd C dL_says_53 ?_
      refine mk_topi (y := nI (a + j)) (nI_add _ _) ?_
      refine mk_callXe C (c_satG l D cI cJ cB cZ cS X Y k0 (a + j) (by rw [hn]; exact hlt) (hSp k0)) mw_956 mw_405 mw_406 mw_13 mw_407 mkq_J0_charAt_5068e rfl ⟨Nat.le_of_ble_eq_true rfl, Nat.le_of_ble_eq_true rfl⟩ ⟨hc, hs⟩ rfl (Nat.le_of_ble_eq_true rfl) dL_says_54 rfl ?_
      refine mk_goto C 62 dL_says_57 (by decide) ?_
      have eb : byN n (Y.1 k0).2.2 (a + j) = (Y.1 k0).2.2 (a + j) := by unfold byN; rw [if_pos hlt]
      refine mk_ior C dL_says_62 ?_
      refine mk_topi (y := nI (wdN (fun j => byN n (Y.1 k0).2.2 (a + j)) (j + 1) (j / 4))) (by rw [wdN, if_pos rfl]; show _ = nI (_ * 256 + byN n (Y.1 k0).2.2 (a + j)); rw [eb]; exact nI_or _ _ hw (by have := hby (a + j); omega)) ?_
      refine mk_iast C 0 0 (f := f) rfl rfl (vp_in_nI hj4 (by decide)) (j := (j / 4)) (nI_clamp (by omega)) (ws' := ([(q, .inl (cI, 5, .inl (upd f (j / 4) (nI (wdN (fun j => byN n (Y.1 k0).2.2 (a + j)) (j + 1) (j / 4))))))] ++ (wChan aZ aR aT aD aY aP aC aO aA aM ++ (wReader aR aT aD uR ++ (wTape aT cI uT ++ (wPlan aD cI uD ++ (wPlay aY aP aS (mk_crs aC aO uQ) cI uY ++ (wPlan aP cI uP ++ (wStack aS cI uS ++ (wCourse aC cI uC ++ (wCourse aO cI uO ++ (wActs aA cI uA ++ (wMeans aM cJ uM))))))))))))) rfl dL_says_63 ?_
      refine mk_iinc C 0 (v := nI (j + 1)) (lv' := [(4, .int (nI (j + 1))), (3, .ref q), (2, .int (nI a)), (1, .ref (X k0)), (0, .ref (aZ 0))]) dL_says_64 rfl (nI_1 j) (by decide) rfl ?_
      refine mk_goto C 17 dL_says_67 (by decide) ?_
      refine mk_lvsub [0, 1, 2, 3, 4] rfl (ih (j + 1) (upd f (j / 4) (nI (wdN (fun j => byN n (Y.1 k0).2.2 (a + j)) (j + 1) (j / 4)))) (by omega) (fun i hi => ?_))
      by_cases e : i = j / 4
      · subst e; rw [pk_us]
      · rw [pk_un e, h5 i hi, wdN, if_neg e]
set_option maxHeartbeats 4000000 in
set_option maxRecDepth 100000 in
theorem sy_loop {p : Program} {l : Launch} {e : Env} {s : State} {m : MethodId} {args : Array Value} {below : List Frame} {meth : Method} {c : Code} {D : va_G} {A : Nat → Prop} {cI cJ cB cZ cS : ClassId} {X : Nat → Nat} {Y : mk_Y} (C : mk_Cx p s m args c cL_says 5 RL D (mk_TY cI cJ cB cZ cS) X Y A) (hr : meth.sig.returnType = some .boolean) (hlk : meth.locks = false) {aZ aR aT aD aY aP aS aC aO aA aM : Nat → Nat} {uQ : Nat} {uR uD uY uP uS uC uO uA : Nat → Nat → Int32} {uM : Nat → Nat → Int64} {k0 n : Nat} (hSp : ∀ k, mk_Sp (Y.1 k)) (hn : (Y.1 k0).2.1 = n) (hn4 : n ≤ 460) (hby : ∀ j, byN n (Y.1 k0).2.2 j < 128) : ∀ k a c0 uT, n + 20 ≤ a + 20 * k → c0 + k ≤ 25 → a < n + 20 → uT 1 0 = nI a → (∀ j, j < a → uT 0 j = nI (byN n (Y.1 k0).2.2 j)) → mk_Go p l e ({ frames := 6, cells := 25, slots := 125, locals := 181 }) s m args below meth c D A 5 c0 (5 * c0) (MQ below (mk_QG (fun wT : Nat → Nat → Int32 => wT 1 0 = nI n ∧ ∀ j, j < n → wT 0 j = nI ((Y.1 k0).2.2 j)) (fun _ => some (.int 1)) D (fun wT => (wChan aZ aR aT aD aY aP aC aO aA aM ++ (wReader aR aT aD uR ++ (wTape aT cI wT ++ (wPlan aD cI uD ++ (wPlay aY aP aS (mk_crs aC aO uQ) cI uY ++ (wPlan aP cI uP ++ (wStack aS cI uS ++ (wCourse aC cI uC ++ (wCourse aO cI uO ++ (wActs aA cI uA ++ (wMeans aM cJ uM)))))))))))) A) args s 25 125 A) 2 ([] ++ (wChan aZ aR aT aD aY aP aC aO aA aM ++ (wReader aR aT aD uR ++ (wTape aT cI uT ++ (wPlan aD cI uD ++ (wPlay aY aP aS (mk_crs aC aO uQ) cI uY ++ (wPlan aP cI uP ++ (wStack aS cI uS ++ (wCourse aC cI uC ++ (wCourse aO cI uO ++ (wActs aA cI uA ++ (wMeans aM cJ uM)))))))))))) [(2, .int (nI a)), (1, .ref (X k0)), (0, .ref (aZ 0))] [] := by
  intro k
  induction k with
  | zero =>
    intro a c0 uT hk hac ha h1 h2
    exact absurd hk (by omega)
  | succ k ih =>
    intro a c0 uT hk hac ha h1 h2
    have hc : c0 ≤ 25 := by omega
    have hs : 5 * c0 ≤ 125 := by omega
    refine mk_iload_n C 0 dL_says_2 rfl ?_
    refine mk_aload_n C 1 dL_says_3 rfl ?_
    refine mk_callXe C (c_slenG l D cI cJ cB cZ cS X Y k0) mw_955 mw_395 mw_396 mw_13 mw_397 mkq_J0_length_8abf5 rfl ⟨Nat.le_of_ble_eq_true rfl, Nat.le_of_ble_eq_true rfl⟩ ⟨hc, hs⟩ rfl (Nat.le_of_ble_eq_true rfl) dL_says_4 rfl ?_
    refine mk_topi (y := nI n) (by rw [hn]) ?_
    refine mk_icmp_ge C 104 dL_says_7 (by decide) (fun hq => ?_) (fun hq => ?_)
    · have hna : n ≤ a := (nI_leI (by omega) (by omega)).mp hq
      refine mk_aload_n C 2 dL_says_104 rfl ?_
      refine mk_aload_n C 1 dL_says_105 rfl ?_
      refine mk_callXe C (c_slenG l D cI cJ cB cZ cS X Y k0) mw_955 mw_395 mw_396 mw_13 mw_397 mkq_J0_length_8abf5 rfl ⟨Nat.le_of_ble_eq_true rfl, Nat.le_of_ble_eq_true rfl⟩ ⟨hc, hs⟩ rfl (Nat.le_of_ble_eq_true rfl) dL_says_106 rfl ?_
      refine mk_topi (y := nI n) (by rw [hn]) ?_
      refine mk_callXi C (c_Z_end l D cI cJ cB cZ cS X Y aZ aR aT aD aY aP aS aC aO aA aM uQ uR uT uD uY uP uS uC uO uA uM (nI n) (nI n) (upF 1 (nI n) uT) (by unfold f_Z_end; rw [if_neg (nI_pos (by omega)), h1, if_pos (nI_le hna (by omega))])) mw_966 mw_967 mw_968 mw_1 mw_969 mkq_X8_end rfl ⟨Nat.le_of_ble_eq_true rfl, Nat.le_of_ble_eq_true rfl⟩ ⟨hc, hs⟩ 0 rfl rfl rfl (mk_Fr.last [] (wChan aZ aR aT aD aY aP aC aO aA aM ++ (wReader aR aT aD uR ++ (wTape aT cI uT ++ (wPlan aD cI uD ++ (wPlay aY aP aS (mk_crs aC aO uQ) cI uY ++ (wPlan aP cI uP ++ (wStack aS cI uS ++ (wCourse aC cI uC ++ (wCourse aO cI uO ++ (wActs aA cI uA ++ (wMeans aM cJ uM))))))))))) (wChan aZ aR aT aD aY aP aC aO aA aM ++ (wReader aR aT aD uR ++ (wTape aT cI (upF 1 (nI n) uT) ++ (wPlan aD cI uD ++ (wPlay aY aP aS (mk_crs aC aO uQ) cI uY ++ (wPlan aP cI uP ++ (wStack aS cI uS ++ (wCourse aC cI uC ++ (wCourse aO cI uO ++ (wActs aA cI uA ++ (wMeans aM cJ uM)))))))))))) (Nat.le_of_ble_eq_true rfl) dL_says_109 rfl ?_
      refine mk_aload_n C 1 dL_says_112 rfl ?_
      refine mk_callXe C (c_slenG l D cI cJ cB cZ cS X Y k0) mw_955 mw_395 mw_396 mw_13 mw_397 mkq_J0_length_8abf5 rfl ⟨Nat.le_of_ble_eq_true rfl, Nat.le_of_ble_eq_true rfl⟩ ⟨hc, hs⟩ rfl (Nat.le_of_ble_eq_true rfl) dL_says_113 rfl ?_
      refine mk_topi (y := nI n) (by rw [hn]) ?_
      refine mk_icmp_ne C 123 dL_says_116 (by decide) (fun h9 => absurd h9 (fun z => z rfl)) (fun _ => ?_)
      refine mk_iconst C (v := 1) dL_says_119 (by decide) ?_
      refine mk_goto C 124 dL_says_120 (by decide) ?_
      refine mk_widen (k := 25) (n := 125) hc hs ?_
      exact mk_iretG C hr hlk rfl (upF 1 (nI n) uT) ⟨rfl, fun j hj => by show uT 0 j = _; rw [h2 j (by omega), byN, if_pos hj]⟩ rfl rfl dL_says_124
    · have hna : a < n := Nat.lt_of_not_le (fun z => hq (nI_le z (by omega)))
      refine mk_iconst C (v := 5) dL_says_10 (by decide) ?_
      refine mk_newaI C mw_53 (by decide) (N := 5) (by decide) (by decide) ⟨by show c0 + 1 ≤ 25; omega, by show 5 * c0 + 5 ≤ 125; omega⟩ dL_says_11 (fun q => ?_)
      refine mk_perm (ws' := ([] ++ [(q, .inl (cI, 5, .inl (fun _ => 0)))]) ++ (wChan aZ aR aT aD aY aP aC aO aA aM ++ (wReader aR aT aD uR ++ (wTape aT cI uT ++ (wPlan aD cI uD ++ (wPlay aY aP aS (mk_crs aC aO uQ) cI uY ++ (wPlan aP cI uP ++ (wStack aS cI uS ++ (wCourse aC cI uC ++ (wCourse aO cI uO ++ (wActs aA cI uA ++ (wMeans aM cJ uM)))))))))))) mk_pB ?_
      refine mk_weq (ws' := ([(q, .inl (cI, 5, .inl (fun _ => 0)))] ++ (wChan aZ aR aT aD aY aP aC aO aA aM ++ (wReader aR aT aD uR ++ (wTape aT cI uT ++ (wPlan aD cI uD ++ (wPlay aY aP aS (mk_crs aC aO uQ) cI uY ++ (wPlan aP cI uP ++ (wStack aS cI uS ++ (wCourse aC cI uC ++ (wCourse aO cI uO ++ (wActs aA cI uA ++ (wMeans aM cJ uM))))))))))))) rfl ?_
      refine mk_astore_n C (lv' := [(3, .ref q), (2, .int (nI a)), (1, .ref (X k0)), (0, .ref (aZ 0))]) dL_says_13 (by decide) rfl ?_
      refine mk_iconst C (v := 0) dL_says_14 (by decide) ?_
      refine mk_istore C (lv' := [(4, .int 0), (3, .ref q), (2, .int (nI a)), (1, .ref (X k0)), (0, .ref (aZ 0))]) dL_says_15 (by decide) rfl ?_
      refine mk_lvsub [0, 1, 2, 3, 4] rfl (sy_in C hSp hn hn4 (by omega) (by omega) (by omega) hby (fun f hf => ?_) 20 0 (fun _ => 0) (by omega) (fun i hi => rfl))
      obtain ⟨w, e1, e2, e3, e4⟩ := q_fd f h1 (by omega)
      refine mk_aload_n C 3 dL_says_70 rfl ?_
      refine mk_aload_n C 0 dL_says_71 rfl ?_
      refine mk_iconst C (v := 0) dL_says_72 (by decide) ?_
      refine mk_iald C 0 0 (f := f) rfl rfl (mk_vi (by decide)) (j := 0) (by decide) dL_says_73 ?_
      refine mk_aload_n C 0 dL_says_74 rfl ?_
      refine mk_iconst C (v := 1) dL_says_75 (by decide) ?_
      refine mk_iald C 0 0 (f := f) rfl rfl (mk_vi (by decide)) (j := 1) (by decide) dL_says_76 ?_
      refine mk_aload_n C 0 dL_says_77 rfl ?_
      refine mk_iconst C (v := 2) dL_says_78 (by decide) ?_
      refine mk_iald C 0 0 (f := f) rfl rfl (mk_vi (by decide)) (j := 2) (by decide) dL_says_79 ?_
      refine mk_aload_n C 0 dL_says_80 rfl ?_
      refine mk_iconst C (v := 3) dL_says_81 (by decide) ?_
      refine mk_iald C 0 0 (f := f) rfl rfl (mk_vi (by decide)) (j := 3) (by decide) dL_says_82 ?_
      refine mk_aload_n C 0 dL_says_83 rfl ?_
      refine mk_iconst C (v := 4) dL_says_84 (by decide) ?_
      refine mk_iald C 0 0 (f := f) rfl rfl (mk_vi (by decide)) (j := 4) (by decide) dL_says_85 ?_
      refine mk_callXi C (c_Z_feed l D cI cJ cB cZ cS X Y aZ aR aT aD aY aP aS aC aO aA aM uQ uR uT uD uY uP uS uC uO uA uM (f 0) (f 1) (f 2) (f 3) (f 4) (nI (a + 20)) w (e1)) mw_957 mw_958 mw_959 mw_1 mw_960 mkq_X8_feed rfl ⟨Nat.le_of_ble_eq_true rfl, Nat.le_of_ble_eq_true rfl⟩ ⟨by show c0 + 1 ≤ 25; omega, by show 5 * c0 + 5 ≤ 125; omega⟩ 1 rfl rfl rfl (mk_Fr.last [(q, .inl (cI, 5, .inl f))] (wChan aZ aR aT aD aY aP aC aO aA aM ++ (wReader aR aT aD uR ++ (wTape aT cI uT ++ (wPlan aD cI uD ++ (wPlay aY aP aS (mk_crs aC aO uQ) cI uY ++ (wPlan aP cI uP ++ (wStack aS cI uS ++ (wCourse aC cI uC ++ (wCourse aO cI uO ++ (wActs aA cI uA ++ (wMeans aM cJ uM))))))))))) (wChan aZ aR aT aD aY aP aC aO aA aM ++ (wReader aR aT aD uR ++ (wTape aT cI w ++ (wPlan aD cI uD ++ (wPlay aY aP aS (mk_crs aC aO uQ) cI uY ++ (wPlan aP cI uP ++ (wStack aS cI uS ++ (wCourse aC cI uC ++ (wCourse aO cI uO ++ (wActs aA cI uA ++ (wMeans aM cJ uM)))))))))))) (Nat.le_of_ble_eq_true rfl) dL_says_86 rfl ?_
      refine mk_iload_n C 1 dL_says_89 rfl ?_
      refine mk_bipush C (v := 20) dL_says_90 (by decide) ?_
      refine mk_iadd C dL_says_92 ?_
      refine mk_topi (y := nI (a + 20)) (nI_add a 20) ?_
      refine mk_icmp_eq C 98 dL_says_93 (by decide) (fun _ => ?_) (fun h9 => absurd (rfl) h9)
      refine mk_iinc C 1 (v := nI (a + 20)) (lv' := [(2, .int (nI (a + 20))), (3, .ref q), (1, .ref (X k0)), (0, .ref (aZ 0))]) dL_says_98 rfl (nI_add a 20) (by decide) rfl ?_
      refine mk_goto C 2 dL_says_101 (by decide) ?_
      refine mk_drop [(q, .inl (cI, 5, .inl f))] (ws' := ([] ++ (wChan aZ aR aT aD aY aP aC aO aA aM ++ (wReader aR aT aD uR ++ (wTape aT cI w ++ (wPlan aD cI uD ++ (wPlay aY aP aS (mk_crs aC aO uQ) cI uY ++ (wPlan aP cI uP ++ (wStack aS cI uS ++ (wCourse aC cI uC ++ (wCourse aO cI uO ++ (wActs aA cI uA ++ (wMeans aM cJ uM))))))))))))) (mk_pD (List.Perm.refl _)) ?_
      refine mk_widen (k := c0 + 1) (n := 5 * (c0 + 1)) (Nat.le_refl _) (by omega) ?_
      refine mk_lvsub [0, 2, 3] rfl (ih (a + 20) (c0 + 1) w (by omega) (by omega) (by omega) e2 (fun j hj => ?_))
      by_cases z : j < a
      · rw [e3 j z]; exact h2 j z
      · obtain ⟨i, rfl⟩ : ∃ i, j = a + i := ⟨j - a, by omega⟩
        rw [e4 i (by omega), hf _ (by omega), wd_by (b := (fun j => byN n (Y.1 k0).2.2 (a + j))) (fun z => hby _) i (by omega)]
set_option maxHeartbeats 4000000 in
set_option maxRecDepth 100000 in
theorem c_says (l : Launch) (D : va_G) (cI cJ cB cZ cS : ClassId) (X : Nat → Nat) (Y : mk_Y) (aZ aR aT aD aY aP aS aC aO aA aM : Nat → Nat) (uQ : Nat) (uR uT uD uY uP uS uC uO uA : Nat → Nat → Int32) (uM : Nat → Nat → Int64) (k0 n : Nat) (hSp : ∀ k, mk_Sp (Y.1 k)) (hn : (Y.1 k0).2.1 = n) (hn4 : n ≤ 460) (h1 : uT 1 0 = 0) : mk_MetG l yL_says cL_says 5 (some .boolean) ({ frames := 6, cells := 25, slots := 125, locals := 181 }) D (mk_TY cI cJ cB cZ cS) X Y [.ref (aZ 0), .ref (X k0)] (wChan aZ aR aT aD aY aP aC aO aA aM ++ (wReader aR aT aD uR ++ (wTape aT cI uT ++ (wPlan aD cI uD ++ (wPlay aY aP aS (mk_crs aC aO uQ) cI uY ++ (wPlan aP cI uP ++ (wStack aS cI uS ++ (wCourse aC cI uC ++ (wCourse aO cI uO ++ (wActs aA cI uA ++ (wMeans aM cJ uM))))))))))) (fun wT : Nat → Nat → Int32 => wT 1 0 = nI n ∧ ∀ j, j < n → wT 0 j = nI ((Y.1 k0).2.2 j)) (fun _ => some (.int 1)) (fun wT => (wChan aZ aR aT aD aY aP aC aO aA aM ++ (wReader aR aT aD uR ++ (wTape aT cI wT ++ (wPlan aD cI uD ++ (wPlay aY aP aS (mk_crs aC aO uQ) cI uY ++ (wPlan aP cI uP ++ (wStack aS cI uS ++ (wCourse aC cI uC ++ (wCourse aO cI uO ++ (wActs aA cI uA ++ (wMeans aM cJ uM)))))))))))) 25 125 := by
  refine mk_startG (own := RL) (by decide) rfl (Nat.le_of_ble_eq_true rfl) ?_
  intro sz p e s m args below meth c A C hr hlk hnm
  replace C : mk_Cx p s m args c cL_says 5 RL D (mk_TY cI cJ cB cZ cS) X Y A := C
  have hby : ∀ j, byN n (Y.1 k0).2.2 j < 128 := by intro j; unfold byN; split; exact (hSp k0).2 j (by rw [hn]; assumption); decide
  refine mk_iconst C (v := 0) dL_says_0 (by decide) ?_
  refine mk_istore_n C (lv' := [(2, .int 0), (0, .ref (aZ 0)), (1, .ref (X k0))]) dL_says_1 (by decide) rfl ?_
  exact mk_lvsub [0, 2, 1] rfl (sy_loop C hr hlk hSp hn hn4 hby 24 0 0 uT (by omega) (by omega) (by omega) h1 (fun j hj => by omega))
