set_option maxHeartbeats 4000000 in
set_option maxRecDepth 100000 in
theorem mk_htsW {args : Array Value} {s : State} (hts : ∀ w ∈ lw_tbl, w.before args s = true) : ∀ w ∈ mk_tbl, w.before args s = true := by
  have hp : ∀ w ∈ mk_pv.map (fun y => Cond.selects RJ4 y y), w.before args s = true := List.forall_mem_cons.mpr ⟨mk_selPriv (hts _ (List.mem_append_right _ (List.mem_append_right _ (List.mem_append_right _ (List.mem_append_left _ (List.mem_of_getElem? (i := 216) rfl)))))) (hts _ (List.mem_append_right _ (List.mem_append_right _ (List.mem_append_right _ (List.mem_append_right _ (List.mem_append_right _ (List.mem_of_getElem? (i := 80) rfl))))))) (hts _ (List.mem_append_right _ (List.mem_append_right _ (List.mem_append_right _ (List.mem_append_right _ (List.mem_append_left _ (List.mem_of_getElem? (i := 18) rfl))))))) (hts _ (List.mem_append_right _ (List.mem_append_right _ (List.mem_append_right _ (List.mem_append_right _ (List.mem_append_left _ (List.mem_of_getElem? (i := 19) rfl))))))), List.forall_mem_cons.mpr ⟨mk_selPriv (hts _ (List.mem_append_right _ (List.mem_append_right _ (List.mem_append_right _ (List.mem_append_left _ (List.mem_of_getElem? (i := 216) rfl)))))) (hts _ (List.mem_append_right _ (List.mem_append_right _ (List.mem_append_right _ (List.mem_append_right _ (List.mem_append_right _ (List.mem_of_getElem? (i := 81) rfl))))))) (hts _ (List.mem_append_right _ (List.mem_append_right _ (List.mem_append_right _ (List.mem_append_right _ (List.mem_append_left _ (List.mem_of_getElem? (i := 22) rfl))))))) (hts _ (List.mem_append_right _ (List.mem_append_right _ (List.mem_append_right _ (List.mem_append_right _ (List.mem_append_left _ (List.mem_of_getElem? (i := 23) rfl))))))), List.forall_mem_cons.mpr ⟨mk_selPriv (hts _ (List.mem_append_right _ (List.mem_append_right _ (List.mem_append_right _ (List.mem_append_left _ (List.mem_of_getElem? (i := 216) rfl)))))) (hts _ (List.mem_append_right _ (List.mem_append_right _ (List.mem_append_right _ (List.mem_append_right _ (List.mem_append_right _ (List.mem_of_getElem? (i := 82) rfl))))))) (hts _ (List.mem_append_right _ (List.mem_append_right _ (List.mem_append_right _ (List.mem_append_right _ (List.mem_append_left _ (List.mem_of_getElem? (i := 70) rfl))))))) (hts _ (List.mem_append_right _ (List.mem_append_right _ (List.mem_append_right _ (List.mem_append_right _ (List.mem_append_left _ (List.mem_of_getElem? (i := 71) rfl))))))), List.forall_mem_cons.mpr ⟨mk_selPriv (hts _ (List.mem_append_right _ (List.mem_append_right _ (List.mem_append_right _ (List.mem_append_left _ (List.mem_of_getElem? (i := 216) rfl)))))) (hts _ (List.mem_append_right _ (List.mem_append_right _ (List.mem_append_right _ (List.mem_append_right _ (List.mem_append_right _ (List.mem_of_getElem? (i := 83) rfl))))))) (hts _ (List.mem_append_right _ (List.mem_append_right _ (List.mem_append_right _ (List.mem_append_right _ (List.mem_append_left _ (List.mem_of_getElem? (i := 74) rfl))))))) (hts _ (List.mem_append_right _ (List.mem_append_right _ (List.mem_append_right _ (List.mem_append_right _ (List.mem_append_left _ (List.mem_of_getElem? (i := 75) rfl))))))), fun _ hh => absurd hh List.not_mem_nil⟩⟩⟩⟩
  intro w hw
  rcases List.mem_append.mp hw with q | q
  · exact hp w q
  · exact hts w q
set_option maxHeartbeats 40000000 in
set_option maxRecDepth 100000 in
theorem whole_start {p : Program} {e : Env} {s : State} {m : MethodId} {below : List Frame} {meth : Method} {c : Code} (l : Launch) (hflags : l.flags = flags0) {b L : Nat} {xs : Nat → Int32} (hL : L ≤ 260) (C0 : lw_At p s m meth c b L xs) : W p l e room_1 s m #[Value.ref b] below meth c s.heap [] 0 0 (lw_Z below #[Value.ref b] s) (entryFrame m ([Value.ref b] : List Value).toArray 7) := by
  obtain ⟨hx, hb, hr, hml, hown, hts0, hX, hbl, hlk, hgv⟩ := id C0
  have hA0 : ∀ a : Nat, a < s.heap.size → ¬ (fun q : Nat => s.heap.size ≤ q) a := fun a h => Nat.not_le.mpr h
  obtain ⟨X, Y, hE, hY⟩ := mk_ambient (A := fun q : Nat => s.heap.size ≤ q) hts0 (mk_andR hgv) hA0 hX hbl
  obtain ⟨Y1, Y2⟩ := Y
  replace hY : Y2 = (b, L, xs) := hY
  subst hY
  have hts := mk_htsW hts0
  obtain ⟨cI, kI, compI, fI, hkI, hdI⟩ := Cond.arrayClass_spec (hts _ (mk_WL_in _ mw_53))
  obtain ⟨cJ, kJ, compJ, fJ, hkJ, hdJ⟩ := Cond.arrayClass_spec (hts _ (mk_WL_in _ mw_331))
  obtain ⟨cB, kB, compB, fB, hkB, hdB⟩ := Cond.arrayClass_spec (hts _ (mk_WL_in _ mw_619))
  obtain ⟨cZ, kZ, compZ, fZ, hkZ, hdZ⟩ := Cond.arrayClass_spec (hts _ (mk_WL_in _ mw_1037))
  obtain ⟨compS, cS, kS, fcS, -, hkS, hdS, fS⟩ := Cond.arrayOver_spec (hts0 _ (List.mem_append_right _ (List.mem_append_right _ (List.mem_append_right _ (List.mem_append_left _ (List.mem_of_getElem? (i := 214) rfl))))))
  obtain ⟨k0, i0, hKn0⟩ := u_known (C := RX0) (T := TX0) (N := 3) (n := 3) hts (fun w hw => mk_WL_in w (mk_inX0 w hw)) (hts _ (mk_WL_in _ mw_295))
  obtain ⟨k1, i1, hKn1⟩ := u_known (C := RX1) (T := TX1) (N := 14) (n := 14) hts (fun w hw => mk_WL_in w (mk_inX1 w hw)) (hts _ (mk_WL_in _ mw_182))
  obtain ⟨k2, i2, hKn2⟩ := u_known (C := RX2) (T := TX2) (N := 5) (n := 5) hts (fun w hw => mk_WL_in w (mk_inX2 w hw)) (hts _ (mk_WL_in _ mw_312))
  obtain ⟨k3, i3, hKn3⟩ := u_known (C := RX3) (T := TX3) (N := 12) (n := 12) hts (fun w hw => mk_WL_in w (mk_inX3 w hw)) (hts _ (mk_WL_in _ mw_55))
  obtain ⟨k4, i4, hKn4⟩ := u_known (C := RX4) (T := TX4) (N := 13) (n := 13) hts (fun w hw => mk_WL_in w (mk_inX4 w hw)) (hts _ (mk_WL_in _ mw_152))
  obtain ⟨k5, i5, hKn5⟩ := u_known (C := RX5) (T := TX5) (N := 8) (n := 8) hts (fun w hw => mk_WL_in w (mk_inX5 w hw)) (hts _ (mk_WL_in _ mw_32))
  obtain ⟨k6, i6, hKn6⟩ := u_known (C := RX6) (T := TX6) (N := 4) (n := 4) hts (fun w hw => mk_WL_in w (mk_inX6 w hw)) (hts _ (mk_WL_in _ mw_160))
  obtain ⟨k7, i7, hKn7⟩ := u_known (C := RX7) (T := TX7) (N := 2) (n := 2) hts (fun w hw => mk_WL_in w (mk_inX7 w hw)) (hts _ (mk_WL_in _ mw_38))
  obtain ⟨k8, i8, hKn8⟩ := u_known (C := RX8) (T := TX8) (N := 9) (n := 9) hts (fun w hw => mk_WL_in w (mk_inX8 w hw)) (hts _ (mk_WL_in _ mw_24))
  obtain ⟨k9, i9, hKn9⟩ := u_known (C := RX9) (T := TX9) (N := 9) (n := 9) hts (fun w hw => mk_WL_in w (mk_inX9 w hw)) (hts _ (mk_WL_in _ mw_684))
  obtain ⟨k10, i10, hKn10⟩ := u_known (C := RJ0) (T := TJ0) (N := 4) (n := 4) hts (fun w hw => mk_WL_in w (mk_inJ0 w hw)) (hts _ (mk_WL_in _ mw_857))
  obtain ⟨k11, i11, hKn11⟩ := u_known (C := RJ4) (T := TJ4) (N := 4) (n := 4) hts (fun w hw => mk_WL_in w (mk_inJ4 w hw)) (hts _ (mk_WL_in _ mw_696))
  obtain ⟨D, hKc⟩ : ∃ D : va_G, ∀ (k : Nat) (q : vw_C), vwCl[k]? = some q → u_Kn s q.1 q.2.1 q.2.2 (D.1 k) (D.2 k) := by
    refine ⟨(fun k => [k0, k1, k2, k3, k4, k5, k6, k7, k8, k9, k10, k11].getD k 0, fun k => [i0, i1, i2, i3, i4, i5, i6, i7, i8, i9, i10, i11].getD k (fun _ => 0)), ?_⟩
    intro k q hq
    match k, hq with
    | 0, hq => cases hq; exact hKn0
    | 1, hq => cases hq; exact hKn1
    | 2, hq => cases hq; exact hKn2
    | 3, hq => cases hq; exact hKn3
    | 4, hq => cases hq; exact hKn4
    | 5, hq => cases hq; exact hKn5
    | 6, hq => cases hq; exact hKn6
    | 7, hq => cases hq; exact hKn7
    | 8, hq => cases hq; exact hKn8
    | 9, hq => cases hq; exact hKn9
    | 10, hq => cases hq; exact hKn10
    | 11, hq => cases hq; exact hKn11
    | k + 12, hq => simp [vwCl] at hq
  have hK : va_K D vwCl (mk_TY cI cJ cB cZ cS) s := ⟨hKc, fun k q hq => by
    match k, hq with
    | 0, hq => cases hq; exact ⟨fun n z => ⟨fun k h => (by cases h), kI, hkI, compI, hdI⟩, fI⟩
    | 1, hq => cases hq; exact ⟨fun n z => ⟨fun k h => (by cases h), kJ, hkJ, compJ, hdJ⟩, fJ⟩
    | 2, hq => cases hq; exact ⟨fun n z => ⟨fun k h => (by cases h), kB, hkB, compB, hdB⟩, fB⟩
    | 3, hq => cases hq; exact ⟨fun n z => ⟨fun k h => (by cases h), kZ, hkZ, compZ, hdZ⟩, fZ⟩
    | 4, hq => cases hq; exact ⟨fun n z => ⟨fun k h => (by cases h), kS, hkS, compS, hdS⟩, kS, compS, hkS, hdS, fcS, fS⟩
    | k + 5, hq => simp [mk_TY] at hq⟩
  have C : mk_Cx p s m #[Value.ref b] c code 7 RL D (mk_TY cI cJ cB cZ cS) X (Y1, b, L, xs) (fun q => s.heap.size ≤ q) := ⟨⟨hx, hb, hml, hown, fun w hw => hts w (mk_WL_in w hw)⟩, hK, hE, fun _ h => h⟩
  have hl := lv_entry ([.ref b]) (n := 7) (Nat.le_of_ble_eq_true rfl)
  rw [lg_entry_eq]
  have G := lw_body (below := below) (e := e) (l := l) (Y := (Y1, b, L, xs)) C hr hlk (show L < 2 ^ 31 by omega) hE.2.2.1
  exact G s.heap [] _ (fun k q h => by simp at h) ⟨fun i j p q h => by simp at h, fun k q h => by simp at h⟩ va_S.rf hl
