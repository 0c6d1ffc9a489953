/-! constructors, by program (ctor.py) -/
def mk_z : Nat → Nat → Int32 := fun _ _ => 0
def mk_zL : Nat → Nat → Int64 := fun _ _ => 0
theorem mk_df7 : ∀ j, j < 2 → defaultValue (tyX7 j) = vp_V [.null, .int 0] j := by
  intro j hj
  rcases (show j = 0 ∨ j = 1 by omega) with rfl | rfl <;> rfl
theorem mkn_X7_init : mk_nm yX7_init 0 := by decide +kernel
theorem mk_df3 : ∀ j, j < 12 → defaultValue (tyX3 j) = vp_V [.int 0, .int 0, .int 0, .int 0, .int 0, .int 0, .int 0, .null, .null, .null, .null, .null] j := by
  intro j hj
  rcases (show j = 0 ∨ j = 1 ∨ j = 2 ∨ j = 3 ∨ j = 4 ∨ j = 5 ∨ j = 6 ∨ j = 7 ∨ j = 8 ∨ j = 9 ∨ j = 10 ∨ j = 11 by omega) with rfl | rfl | rfl | rfl | rfl | rfl | rfl | rfl | rfl | rfl | rfl | rfl <;> rfl
theorem mkn_X3_init : mk_nm yX3_init 0 := by decide +kernel
theorem mk_df0 : ∀ j, j < 3 → defaultValue (tyX0 j) = vp_V [.null, .null, .int 0] j := by
  intro j hj
  rcases (show j = 0 ∨ j = 1 ∨ j = 2 by omega) with rfl | rfl | rfl <;> rfl
theorem mkn_X0_init : mk_nm yX0_init 0 := by decide +kernel
theorem mk_df6 : ∀ j, j < 4 → defaultValue (tyX6 j) = vp_V [.null, .null, .null, .int 0] j := by
  intro j hj
  rcases (show j = 0 ∨ j = 1 ∨ j = 2 ∨ j = 3 by omega) with rfl | rfl | rfl | rfl <;> rfl
theorem mkn_X6_init : mk_nm yX6_init 0 := by decide +kernel
theorem mk_df1 : ∀ j, j < 14 → defaultValue (tyX1 j) = vp_V [.null, .null, .null, .null, .null, .null, .null, .null, .null, .int 0, .null, .null, .null, .int 0] j := by
  intro j hj
  rcases (show j = 0 ∨ j = 1 ∨ j = 2 ∨ j = 3 ∨ j = 4 ∨ j = 5 ∨ j = 6 ∨ j = 7 ∨ j = 8 ∨ j = 9 ∨ j = 10 ∨ j = 11 ∨ j = 12 ∨ j = 13 by omega) with rfl | rfl | rfl | rfl | rfl | rfl | rfl | rfl | rfl | rfl | rfl | rfl | rfl | rfl <;> rfl
theorem mkn_X1_init : mk_nm yX1_init 0 := by decide +kernel
theorem mk_df2 : ∀ j, j < 5 → defaultValue (tyX2 j) = vp_V [.null, .null, .null, .long 0, .long 0] j := by
  intro j hj
  rcases (show j = 0 ∨ j = 1 ∨ j = 2 ∨ j = 3 ∨ j = 4 by omega) with rfl | rfl | rfl | rfl | rfl <;> rfl
theorem mkn_X2_init : mk_nm yX2_init 0 := by decide +kernel
theorem mk_df5 : ∀ j, j < 8 → defaultValue (tyX5 j) = vp_V [.null, .null, .int 0, .int 0, .int 0, .int 0, .int 0, .int 0] j := by
  intro j hj
  rcases (show j = 0 ∨ j = 1 ∨ j = 2 ∨ j = 3 ∨ j = 4 ∨ j = 5 ∨ j = 6 ∨ j = 7 by omega) with rfl | rfl | rfl | rfl | rfl | rfl | rfl | rfl <;> rfl
theorem mkn_X5_init : mk_nm yX5_init 0 := by decide +kernel
theorem mk_df4 : ∀ j, j < 13 → defaultValue (tyX4 j) = vp_V [.null, .null, .null, .null, .int 0, .int 0, .int 0, .int 0, .int 0, .int 0, .int 0, .int 0, .int 0] j := by
  intro j hj
  rcases (show j = 0 ∨ j = 1 ∨ j = 2 ∨ j = 3 ∨ j = 4 ∨ j = 5 ∨ j = 6 ∨ j = 7 ∨ j = 8 ∨ j = 9 ∨ j = 10 ∨ j = 11 ∨ j = 12 by omega) with rfl | rfl | rfl | rfl | rfl | rfl | rfl | rfl | rfl | rfl | rfl | rfl | rfl <;> rfl
theorem mkn_X4_init : mk_nm yX4_init 0 := by decide +kernel
theorem mk_df8 : ∀ j, j < 9 → defaultValue (tyX8 j) = vp_V [.null, .null, .null, .null, .null, .null, .null, .null, .null] j := by
  intro j hj
  rcases (show j = 0 ∨ j = 1 ∨ j = 2 ∨ j = 3 ∨ j = 4 ∨ j = 5 ∨ j = 6 ∨ j = 7 ∨ j = 8 by omega) with rfl | rfl | rfl | rfl | rfl | rfl | rfl | rfl | rfl <;> rfl
theorem mkn_X8_init : mk_nm yX8_init 0 := by decide +kernel
set_option maxHeartbeats 40000000 in
set_option maxRecDepth 100000 in
theorem c_T_init (l : Launch) (D : va_G) (cI cJ cB cZ cS : ClassId) (X : Nat → Nat) (Y : mk_Y) (h0 : Nat) : mk_MetN l yX7_init cX7_init 1 ({ frames := 1, cells := 1, slots := 500, locals := 12 }) D (mk_TY cI cJ cB cZ cS) X Y h0 7 [.null, .int 0] (fun u : (Nat → Nat) => u 0) (fun u : (Nat → Nat) => wTape u cI mk_z) 1 500 := by
  refine mk_startN (own := RX7) (by decide) rfl (Nat.le_of_ble_eq_true rfl) ?_
  intro sz p e s m args below meth c A C hr hlk hnm
  replace C : mk_Cx p s m args c cX7_init 1 RX7 D (mk_TY cI cJ cB cZ cS) X Y A := C
  replace hnm : meth.name = "<init>" := hnm
  refine mk_aload_n C 0 dX7_init_0 rfl ?_
  refine mk_objI C mw_42 mw_29 mw_30 ⟨Nat.le_of_ble_eq_true rfl, Nat.le_of_ble_eq_true rfl⟩ dX7_init_1 ?_
  refine mk_aload_n C 0 dX7_init_4 rfl ?_
  refine mk_sipush C (v := 500) dX7_init_5 (by decide) ?_
  refine mk_newaI C mw_53 (by decide) (N := 500) (by decide) (by decide) ⟨Nat.le_of_ble_eq_true rfl, Nat.le_of_ble_eq_true rfl⟩ dX7_init_8 (fun q1 => ?_)
  refine mk_weq (ws' := [(h0, .inr (7, [.null, .int 0])), (q1, .inl (cI, 500, .inl (fun _ => 0)))]) rfl ?_
  refine mk_putF C hnm mk_inX7 tyX7 tyX7_ok nmX7 0 rfl rfl 0 (by decide) mw_43 rfl rfl rfl rfl (Nat.le_of_ble_eq_true rfl) (ws' := [(h0, .inr (7, [.ref q1, .int 0])), (q1, .inl (cI, 500, .inl (fun _ => 0)))]) rfl dX7_init_10 ?_
  exact mk_vretN C hr hlk (fun i => [h0, q1, 0].getD i 0) rfl rfl dX7_init_13
set_option maxHeartbeats 40000000 in
set_option maxRecDepth 100000 in
theorem c_P_init (l : Launch) (D : va_G) (cI cJ cB cZ cS : ClassId) (X : Nat → Nat) (Y : mk_Y) (h0 : Nat) : mk_MetN l yX3_init cX3_init 1 ({ frames := 1, cells := 5, slots := 50, locals := 12 }) D (mk_TY cI cJ cB cZ cS) X Y h0 3 [.int 0, .int 0, .int 0, .int 0, .int 0, .int 0, .int 0, .null, .null, .null, .null, .null] (fun u : (Nat → Nat) => u 0) (fun u : (Nat → Nat) => wPlan u cI mk_z) 5 50 := by
  refine mk_startN (own := RX3) (by decide) rfl (Nat.le_of_ble_eq_true rfl) ?_
  intro sz p e s m args below meth c A C hr hlk hnm
  replace C : mk_Cx p s m args c cX3_init 1 RX3 D (mk_TY cI cJ cB cZ cS) X Y A := C
  replace hnm : meth.name = "<init>" := hnm
  refine mk_aload_n C 0 dX3_init_0 rfl ?_
  refine mk_objI C mw_59 mw_29 mw_30 ⟨Nat.le_of_ble_eq_true rfl, Nat.le_of_ble_eq_true rfl⟩ dX3_init_1 ?_
  refine mk_aload_n C 0 dX3_init_4 rfl ?_
  refine mk_bipush C (v := 10) dX3_init_5 (by decide) ?_
  refine mk_newaI C mw_53 (by decide) (N := 10) (by decide) (by decide) ⟨Nat.le_of_ble_eq_true rfl, Nat.le_of_ble_eq_true rfl⟩ dX3_init_7 (fun q1 => ?_)
  refine mk_weq (ws' := [(h0, .inr (3, [.int 0, .int 0, .int 0, .int 0, .int 0, .int 0, .int 0, .null, .null, .null, .null, .null])), (q1, .inl (cI, 10, .inl (fun _ => 0)))]) rfl ?_
  refine mk_putF C hnm mk_inX3 tyX3 tyX3_ok nmX3 0 rfl rfl 7 (by decide) mw_89 rfl rfl rfl rfl (Nat.le_of_ble_eq_true rfl) (ws' := [(h0, .inr (3, [.int 0, .int 0, .int 0, .int 0, .int 0, .int 0, .int 0, .ref q1, .null, .null, .null, .null])), (q1, .inl (cI, 10, .inl (fun _ => 0)))]) rfl dX3_init_9 ?_
  refine mk_aload_n C 0 dX3_init_12 rfl ?_
  refine mk_bipush C (v := 10) dX3_init_13 (by decide) ?_
  refine mk_newaI C mw_53 (by decide) (N := 10) (by decide) (by decide) ⟨Nat.le_of_ble_eq_true rfl, Nat.le_of_ble_eq_true rfl⟩ dX3_init_15 (fun q2 => ?_)
  refine mk_weq (ws' := [(h0, .inr (3, [.int 0, .int 0, .int 0, .int 0, .int 0, .int 0, .int 0, .ref q1, .null, .null, .null, .null])), (q1, .inl (cI, 10, .inl (fun _ => 0))), (q2, .inl (cI, 10, .inl (fun _ => 0)))]) rfl ?_
  refine mk_putF C hnm mk_inX3 tyX3 tyX3_ok nmX3 0 rfl rfl 8 (by decide) mw_91 rfl rfl rfl rfl (Nat.le_of_ble_eq_true rfl) (ws' := [(h0, .inr (3, [.int 0, .int 0, .int 0, .int 0, .int 0, .int 0, .int 0, .ref q1, .ref q2, .null, .null, .null])), (q1, .inl (cI, 10, .inl (fun _ => 0))), (q2, .inl (cI, 10, .inl (fun _ => 0)))]) rfl dX3_init_17 ?_
  refine mk_aload_n C 0 dX3_init_20 rfl ?_
  refine mk_bipush C (v := 10) dX3_init_21 (by decide) ?_
  refine mk_newaI C mw_53 (by decide) (N := 10) (by decide) (by decide) ⟨Nat.le_of_ble_eq_true rfl, Nat.le_of_ble_eq_true rfl⟩ dX3_init_23 (fun q3 => ?_)
  refine mk_weq (ws' := [(h0, .inr (3, [.int 0, .int 0, .int 0, .int 0, .int 0, .int 0, .int 0, .ref q1, .ref q2, .null, .null, .null])), (q1, .inl (cI, 10, .inl (fun _ => 0))), (q2, .inl (cI, 10, .inl (fun _ => 0))), (q3, .inl (cI, 10, .inl (fun _ => 0)))]) rfl ?_
  refine mk_putF C hnm mk_inX3 tyX3 tyX3_ok nmX3 0 rfl rfl 9 (by decide) mw_93 rfl rfl rfl rfl (Nat.le_of_ble_eq_true rfl) (ws' := [(h0, .inr (3, [.int 0, .int 0, .int 0, .int 0, .int 0, .int 0, .int 0, .ref q1, .ref q2, .ref q3, .null, .null])), (q1, .inl (cI, 10, .inl (fun _ => 0))), (q2, .inl (cI, 10, .inl (fun _ => 0))), (q3, .inl (cI, 10, .inl (fun _ => 0)))]) rfl dX3_init_25 ?_
  refine mk_aload_n C 0 dX3_init_28 rfl ?_
  refine mk_bipush C (v := 10) dX3_init_29 (by decide) ?_
  refine mk_newaI C mw_53 (by decide) (N := 10) (by decide) (by decide) ⟨Nat.le_of_ble_eq_true rfl, Nat.le_of_ble_eq_true rfl⟩ dX3_init_31 (fun q4 => ?_)
  refine mk_weq (ws' := [(h0, .inr (3, [.int 0, .int 0, .int 0, .int 0, .int 0, .int 0, .int 0, .ref q1, .ref q2, .ref q3, .null, .null])), (q1, .inl (cI, 10, .inl (fun _ => 0))), (q2, .inl (cI, 10, .inl (fun _ => 0))), (q3, .inl (cI, 10, .inl (fun _ => 0))), (q4, .inl (cI, 10, .inl (fun _ => 0)))]) rfl ?_
  refine mk_putF C hnm mk_inX3 tyX3 tyX3_ok nmX3 0 rfl rfl 10 (by decide) mw_95 rfl rfl rfl rfl (Nat.le_of_ble_eq_true rfl) (ws' := [(h0, .inr (3, [.int 0, .int 0, .int 0, .int 0, .int 0, .int 0, .int 0, .ref q1, .ref q2, .ref q3, .ref q4, .null])), (q1, .inl (cI, 10, .inl (fun _ => 0))), (q2, .inl (cI, 10, .inl (fun _ => 0))), (q3, .inl (cI, 10, .inl (fun _ => 0))), (q4, .inl (cI, 10, .inl (fun _ => 0)))]) rfl dX3_init_33 ?_
  refine mk_aload_n C 0 dX3_init_36 rfl ?_
  refine mk_bipush C (v := 10) dX3_init_37 (by decide) ?_
  refine mk_newaI C mw_53 (by decide) (N := 10) (by decide) (by decide) ⟨Nat.le_of_ble_eq_true rfl, Nat.le_of_ble_eq_true rfl⟩ dX3_init_39 (fun q5 => ?_)
  refine mk_weq (ws' := [(h0, .inr (3, [.int 0, .int 0, .int 0, .int 0, .int 0, .int 0, .int 0, .ref q1, .ref q2, .ref q3, .ref q4, .null])), (q1, .inl (cI, 10, .inl (fun _ => 0))), (q2, .inl (cI, 10, .inl (fun _ => 0))), (q3, .inl (cI, 10, .inl (fun _ => 0))), (q4, .inl (cI, 10, .inl (fun _ => 0))), (q5, .inl (cI, 10, .inl (fun _ => 0)))]) rfl ?_
  refine mk_putF C hnm mk_inX3 tyX3 tyX3_ok nmX3 0 rfl rfl 11 (by decide) mw_97 rfl rfl rfl rfl (Nat.le_of_ble_eq_true rfl) (ws' := [(h0, .inr (3, [.int 0, .int 0, .int 0, .int 0, .int 0, .int 0, .int 0, .ref q1, .ref q2, .ref q3, .ref q4, .ref q5])), (q1, .inl (cI, 10, .inl (fun _ => 0))), (q2, .inl (cI, 10, .inl (fun _ => 0))), (q3, .inl (cI, 10, .inl (fun _ => 0))), (q4, .inl (cI, 10, .inl (fun _ => 0))), (q5, .inl (cI, 10, .inl (fun _ => 0)))]) rfl dX3_init_41 ?_
  exact mk_vretN C hr hlk (fun i => [h0, 0, 0, 0, 0, 0, 0, 0, q1, q2, q3, q4, q5].getD i 0) rfl rfl dX3_init_44
set_option maxHeartbeats 40000000 in
set_option maxRecDepth 100000 in
theorem c_A_init (l : Launch) (D : va_G) (cI cJ cB cZ cS : ClassId) (X : Nat → Nat) (Y : mk_Y) (h0 : Nat) : mk_MetN l yX0_init cX0_init 1 ({ frames := 1, cells := 2, slots := 40, locals := 12 }) D (mk_TY cI cJ cB cZ cS) X Y h0 0 [.null, .null, .int 0] (fun u : (Nat → Nat) => u 0) (fun u : (Nat → Nat) => wActs u cI mk_z) 2 40 := by
  refine mk_startN (own := RX0) (by decide) rfl (Nat.le_of_ble_eq_true rfl) ?_
  intro sz p e s m args below meth c A C hr hlk hnm
  replace C : mk_Cx p s m args c cX0_init 1 RX0 D (mk_TY cI cJ cB cZ cS) X Y A := C
  replace hnm : meth.name = "<init>" := hnm
  refine mk_aload_n C 0 dX0_init_0 rfl ?_
  refine mk_objI C mw_299 mw_29 mw_30 ⟨Nat.le_of_ble_eq_true rfl, Nat.le_of_ble_eq_true rfl⟩ dX0_init_1 ?_
  refine mk_aload_n C 0 dX0_init_4 rfl ?_
  refine mk_bipush C (v := 20) dX0_init_5 (by decide) ?_
  refine mk_newaI C mw_53 (by decide) (N := 20) (by decide) (by decide) ⟨Nat.le_of_ble_eq_true rfl, Nat.le_of_ble_eq_true rfl⟩ dX0_init_7 (fun q1 => ?_)
  refine mk_weq (ws' := [(h0, .inr (0, [.null, .null, .int 0])), (q1, .inl (cI, 20, .inl (fun _ => 0)))]) rfl ?_
  refine mk_putF C hnm mk_inX0 tyX0 tyX0_ok nmX0 0 rfl rfl 0 (by decide) mw_300 rfl rfl rfl rfl (Nat.le_of_ble_eq_true rfl) (ws' := [(h0, .inr (0, [.ref q1, .null, .int 0])), (q1, .inl (cI, 20, .inl (fun _ => 0)))]) rfl dX0_init_9 ?_
  refine mk_aload_n C 0 dX0_init_12 rfl ?_
  refine mk_bipush C (v := 20) dX0_init_13 (by decide) ?_
  refine mk_newaI C mw_53 (by decide) (N := 20) (by decide) (by decide) ⟨Nat.le_of_ble_eq_true rfl, Nat.le_of_ble_eq_true rfl⟩ dX0_init_15 (fun q2 => ?_)
  refine mk_weq (ws' := [(h0, .inr (0, [.ref q1, .null, .int 0])), (q1, .inl (cI, 20, .inl (fun _ => 0))), (q2, .inl (cI, 20, .inl (fun _ => 0)))]) rfl ?_
  refine mk_putF C hnm mk_inX0 tyX0 tyX0_ok nmX0 0 rfl rfl 1 (by decide) mw_301 rfl rfl rfl rfl (Nat.le_of_ble_eq_true rfl) (ws' := [(h0, .inr (0, [.ref q1, .ref q2, .int 0])), (q1, .inl (cI, 20, .inl (fun _ => 0))), (q2, .inl (cI, 20, .inl (fun _ => 0)))]) rfl dX0_init_17 ?_
  exact mk_vretN C hr hlk (fun i => [h0, q1, q2, 0].getD i 0) rfl rfl dX0_init_20
set_option maxHeartbeats 40000000 in
set_option maxRecDepth 100000 in
theorem c_S_init (l : Launch) (D : va_G) (cI cJ cB cZ cS : ClassId) (X : Nat → Nat) (Y : mk_Y) (h0 : Nat) : mk_MetN l yX6_init cX6_init 1 ({ frames := 1, cells := 3, slots := 603, locals := 12 }) D (mk_TY cI cJ cB cZ cS) X Y h0 6 [.null, .null, .null, .int 0] (fun u : (Nat → Nat) => u 0) (fun u : (Nat → Nat) => wStack u cI mk_z) 3 603 := by
  refine mk_startN (own := RX6) (by decide) rfl (Nat.le_of_ble_eq_true rfl) ?_
  intro sz p e s m args below meth c A C hr hlk hnm
  replace C : mk_Cx p s m args c cX6_init 1 RX6 D (mk_TY cI cJ cB cZ cS) X Y A := C
  replace hnm : meth.name = "<init>" := hnm
  refine mk_aload_n C 0 dX6_init_0 rfl ?_
  refine mk_objI C mw_164 mw_29 mw_30 ⟨Nat.le_of_ble_eq_true rfl, Nat.le_of_ble_eq_true rfl⟩ dX6_init_1 ?_
  refine mk_aload_n C 0 dX6_init_4 rfl ?_
  refine mk_sipush C (v := 201) dX6_init_5 (by decide) ?_
  refine mk_newaI C mw_53 (by decide) (N := 201) (by decide) (by decide) ⟨Nat.le_of_ble_eq_true rfl, Nat.le_of_ble_eq_true rfl⟩ dX6_init_8 (fun q1 => ?_)
  refine mk_weq (ws' := [(h0, .inr (6, [.null, .null, .null, .int 0])), (q1, .inl (cI, 201, .inl (fun _ => 0)))]) rfl ?_
  refine mk_putF C hnm mk_inX6 tyX6 tyX6_ok nmX6 0 rfl rfl 0 (by decide) mw_165 rfl rfl rfl rfl (Nat.le_of_ble_eq_true rfl) (ws' := [(h0, .inr (6, [.ref q1, .null, .null, .int 0])), (q1, .inl (cI, 201, .inl (fun _ => 0)))]) rfl dX6_init_10 ?_
  refine mk_aload_n C 0 dX6_init_13 rfl ?_
  refine mk_sipush C (v := 201) dX6_init_14 (by decide) ?_
  refine mk_newaI C mw_53 (by decide) (N := 201) (by decide) (by decide) ⟨Nat.le_of_ble_eq_true rfl, Nat.le_of_ble_eq_true rfl⟩ dX6_init_17 (fun q2 => ?_)
  refine mk_weq (ws' := [(h0, .inr (6, [.ref q1, .null, .null, .int 0])), (q1, .inl (cI, 201, .inl (fun _ => 0))), (q2, .inl (cI, 201, .inl (fun _ => 0)))]) rfl ?_
  refine mk_putF C hnm mk_inX6 tyX6 tyX6_ok nmX6 0 rfl rfl 1 (by decide) mw_166 rfl rfl rfl rfl (Nat.le_of_ble_eq_true rfl) (ws' := [(h0, .inr (6, [.ref q1, .ref q2, .null, .int 0])), (q1, .inl (cI, 201, .inl (fun _ => 0))), (q2, .inl (cI, 201, .inl (fun _ => 0)))]) rfl dX6_init_19 ?_
  refine mk_aload_n C 0 dX6_init_22 rfl ?_
  refine mk_sipush C (v := 201) dX6_init_23 (by decide) ?_
  refine mk_newaI C mw_53 (by decide) (N := 201) (by decide) (by decide) ⟨Nat.le_of_ble_eq_true rfl, Nat.le_of_ble_eq_true rfl⟩ dX6_init_26 (fun q3 => ?_)
  refine mk_weq (ws' := [(h0, .inr (6, [.ref q1, .ref q2, .null, .int 0])), (q1, .inl (cI, 201, .inl (fun _ => 0))), (q2, .inl (cI, 201, .inl (fun _ => 0))), (q3, .inl (cI, 201, .inl (fun _ => 0)))]) rfl ?_
  refine mk_putF C hnm mk_inX6 tyX6 tyX6_ok nmX6 0 rfl rfl 2 (by decide) mw_168 rfl rfl rfl rfl (Nat.le_of_ble_eq_true rfl) (ws' := [(h0, .inr (6, [.ref q1, .ref q2, .ref q3, .int 0])), (q1, .inl (cI, 201, .inl (fun _ => 0))), (q2, .inl (cI, 201, .inl (fun _ => 0))), (q3, .inl (cI, 201, .inl (fun _ => 0)))]) rfl dX6_init_28 ?_
  exact mk_vretN C hr hlk (fun i => [h0, q1, q2, q3, 0].getD i 0) rfl rfl dX6_init_31
set_option maxHeartbeats 40000000 in
set_option maxRecDepth 100000 in
theorem c_C_init (l : Launch) (D : va_G) (cI cJ cB cZ cS : ClassId) (X : Nat → Nat) (Y : mk_Y) (h0 : Nat) : mk_MetN l yX1_init cX1_init 1 ({ frames := 1, cells := 12, slots := 1640, locals := 12 }) D (mk_TY cI cJ cB cZ cS) X Y h0 1 [.null, .null, .null, .null, .null, .null, .null, .null, .null, .int 0, .null, .null, .null, .int 0] (fun u : (Nat → Nat) => u 0) (fun u : (Nat → Nat) => wCourse u cI mk_z) 12 1640 := by
  refine mk_startN (own := RX1) (by decide) rfl (Nat.le_of_ble_eq_true rfl) ?_
  intro sz p e s m args below meth c A C hr hlk hnm
  replace C : mk_Cx p s m args c cX1_init 1 RX1 D (mk_TY cI cJ cB cZ cS) X Y A := C
  replace hnm : meth.name = "<init>" := hnm
  refine mk_aload_n C 0 dX1_init_0 rfl ?_
  refine mk_objI C mw_186 mw_29 mw_30 ⟨Nat.le_of_ble_eq_true rfl, Nat.le_of_ble_eq_true rfl⟩ dX1_init_1 ?_
  refine mk_aload_n C 0 dX1_init_4 rfl ?_
  refine mk_sipush C (v := 200) dX1_init_5 (by decide) ?_
  refine mk_newaI C mw_53 (by decide) (N := 200) (by decide) (by decide) ⟨Nat.le_of_ble_eq_true rfl, Nat.le_of_ble_eq_true rfl⟩ dX1_init_8 (fun q1 => ?_)
  refine mk_weq (ws' := [(h0, .inr (1, [.null, .null, .null, .null, .null, .null, .null, .null, .null, .int 0, .null, .null, .null, .int 0])), (q1, .inl (cI, 200, .inl (fun _ => 0)))]) rfl ?_
  refine mk_putF C hnm mk_inX1 tyX1 tyX1_ok nmX1 0 rfl rfl 0 (by decide) mw_187 rfl rfl rfl rfl (Nat.le_of_ble_eq_true rfl) (ws' := [(h0, .inr (1, [.ref q1, .null, .null, .null, .null, .null, .null, .null, .null, .int 0, .null, .null, .null, .int 0])), (q1, .inl (cI, 200, .inl (fun _ => 0)))]) rfl dX1_init_10 ?_
  refine mk_aload_n C 0 dX1_init_13 rfl ?_
  refine mk_sipush C (v := 200) dX1_init_14 (by decide) ?_
  refine mk_newaI C mw_53 (by decide) (N := 200) (by decide) (by decide) ⟨Nat.le_of_ble_eq_true rfl, Nat.le_of_ble_eq_true rfl⟩ dX1_init_17 (fun q2 => ?_)
  refine mk_weq (ws' := [(h0, .inr (1, [.ref q1, .null, .null, .null, .null, .null, .null, .null, .null, .int 0, .null, .null, .null, .int 0])), (q1, .inl (cI, 200, .inl (fun _ => 0))), (q2, .inl (cI, 200, .inl (fun _ => 0)))]) rfl ?_
  refine mk_putF C hnm mk_inX1 tyX1 tyX1_ok nmX1 0 rfl rfl 1 (by decide) mw_190 rfl rfl rfl rfl (Nat.le_of_ble_eq_true rfl) (ws' := [(h0, .inr (1, [.ref q1, .ref q2, .null, .null, .null, .null, .null, .null, .null, .int 0, .null, .null, .null, .int 0])), (q1, .inl (cI, 200, .inl (fun _ => 0))), (q2, .inl (cI, 200, .inl (fun _ => 0)))]) rfl dX1_init_19 ?_
  refine mk_aload_n C 0 dX1_init_22 rfl ?_
  refine mk_sipush C (v := 200) dX1_init_23 (by decide) ?_
  refine mk_newaI C mw_53 (by decide) (N := 200) (by decide) (by decide) ⟨Nat.le_of_ble_eq_true rfl, Nat.le_of_ble_eq_true rfl⟩ dX1_init_26 (fun q3 => ?_)
  refine mk_weq (ws' := [(h0, .inr (1, [.ref q1, .ref q2, .null, .null, .null, .null, .null, .null, .null, .int 0, .null, .null, .null, .int 0])), (q1, .inl (cI, 200, .inl (fun _ => 0))), (q2, .inl (cI, 200, .inl (fun _ => 0))), (q3, .inl (cI, 200, .inl (fun _ => 0)))]) rfl ?_
  refine mk_putF C hnm mk_inX1 tyX1 tyX1_ok nmX1 0 rfl rfl 2 (by decide) mw_193 rfl rfl rfl rfl (Nat.le_of_ble_eq_true rfl) (ws' := [(h0, .inr (1, [.ref q1, .ref q2, .ref q3, .null, .null, .null, .null, .null, .null, .int 0, .null, .null, .null, .int 0])), (q1, .inl (cI, 200, .inl (fun _ => 0))), (q2, .inl (cI, 200, .inl (fun _ => 0))), (q3, .inl (cI, 200, .inl (fun _ => 0)))]) rfl dX1_init_28 ?_
  refine mk_aload_n C 0 dX1_init_31 rfl ?_
  refine mk_sipush C (v := 200) dX1_init_32 (by decide) ?_
  refine mk_newaI C mw_53 (by decide) (N := 200) (by decide) (by decide) ⟨Nat.le_of_ble_eq_true rfl, Nat.le_of_ble_eq_true rfl⟩ dX1_init_35 (fun q4 => ?_)
  refine mk_weq (ws' := [(h0, .inr (1, [.ref q1, .ref q2, .ref q3, .null, .null, .null, .null, .null, .null, .int 0, .null, .null, .null, .int 0])), (q1, .inl (cI, 200, .inl (fun _ => 0))), (q2, .inl (cI, 200, .inl (fun _ => 0))), (q3, .inl (cI, 200, .inl (fun _ => 0))), (q4, .inl (cI, 200, .inl (fun _ => 0)))]) rfl ?_
  refine mk_putF C hnm mk_inX1 tyX1 tyX1_ok nmX1 0 rfl rfl 3 (by decide) mw_195 rfl rfl rfl rfl (Nat.le_of_ble_eq_true rfl) (ws' := [(h0, .inr (1, [.ref q1, .ref q2, .ref q3, .ref q4, .null, .null, .null, .null, .null, .int 0, .null, .null, .null, .int 0])), (q1, .inl (cI, 200, .inl (fun _ => 0))), (q2, .inl (cI, 200, .inl (fun _ => 0))), (q3, .inl (cI, 200, .inl (fun _ => 0))), (q4, .inl (cI, 200, .inl (fun _ => 0)))]) rfl dX1_init_37 ?_
  refine mk_aload_n C 0 dX1_init_40 rfl ?_
  refine mk_sipush C (v := 200) dX1_init_41 (by decide) ?_
  refine mk_newaI C mw_53 (by decide) (N := 200) (by decide) (by decide) ⟨Nat.le_of_ble_eq_true rfl, Nat.le_of_ble_eq_true rfl⟩ dX1_init_44 (fun q5 => ?_)
  refine mk_weq (ws' := [(h0, .inr (1, [.ref q1, .ref q2, .ref q3, .ref q4, .null, .null, .null, .null, .null, .int 0, .null, .null, .null, .int 0])), (q1, .inl (cI, 200, .inl (fun _ => 0))), (q2, .inl (cI, 200, .inl (fun _ => 0))), (q3, .inl (cI, 200, .inl (fun _ => 0))), (q4, .inl (cI, 200, .inl (fun _ => 0))), (q5, .inl (cI, 200, .inl (fun _ => 0)))]) rfl ?_
  refine mk_putF C hnm mk_inX1 tyX1 tyX1_ok nmX1 0 rfl rfl 4 (by decide) mw_198 rfl rfl rfl rfl (Nat.le_of_ble_eq_true rfl) (ws' := [(h0, .inr (1, [.ref q1, .ref q2, .ref q3, .ref q4, .ref q5, .null, .null, .null, .null, .int 0, .null, .null, .null, .int 0])), (q1, .inl (cI, 200, .inl (fun _ => 0))), (q2, .inl (cI, 200, .inl (fun _ => 0))), (q3, .inl (cI, 200, .inl (fun _ => 0))), (q4, .inl (cI, 200, .inl (fun _ => 0))), (q5, .inl (cI, 200, .inl (fun _ => 0)))]) rfl dX1_init_46 ?_
  refine mk_aload_n C 0 dX1_init_49 rfl ?_
  refine mk_bipush C (v := 10) dX1_init_50 (by decide) ?_
  refine mk_newaI C mw_53 (by decide) (N := 10) (by decide) (by decide) ⟨Nat.le_of_ble_eq_true rfl, Nat.le_of_ble_eq_true rfl⟩ dX1_init_52 (fun q6 => ?_)
  refine mk_weq (ws' := [(h0, .inr (1, [.ref q1, .ref q2, .ref q3, .ref q4, .ref q5, .null, .null, .null, .null, .int 0, .null, .null, .null, .int 0])), (q1, .inl (cI, 200, .inl (fun _ => 0))), (q2, .inl (cI, 200, .inl (fun _ => 0))), (q3, .inl (cI, 200, .inl (fun _ => 0))), (q4, .inl (cI, 200, .inl (fun _ => 0))), (q5, .inl (cI, 200, .inl (fun _ => 0))), (q6, .inl (cI, 10, .inl (fun _ => 0)))]) rfl ?_
  refine mk_putF C hnm mk_inX1 tyX1 tyX1_ok nmX1 0 rfl rfl 5 (by decide) mw_201 rfl rfl rfl rfl (Nat.le_of_ble_eq_true rfl) (ws' := [(h0, .inr (1, [.ref q1, .ref q2, .ref q3, .ref q4, .ref q5, .ref q6, .null, .null, .null, .int 0, .null, .null, .null, .int 0])), (q1, .inl (cI, 200, .inl (fun _ => 0))), (q2, .inl (cI, 200, .inl (fun _ => 0))), (q3, .inl (cI, 200, .inl (fun _ => 0))), (q4, .inl (cI, 200, .inl (fun _ => 0))), (q5, .inl (cI, 200, .inl (fun _ => 0))), (q6, .inl (cI, 10, .inl (fun _ => 0)))]) rfl dX1_init_54 ?_
  refine mk_aload_n C 0 dX1_init_57 rfl ?_
  refine mk_bipush C (v := 10) dX1_init_58 (by decide) ?_
  refine mk_newaI C mw_53 (by decide) (N := 10) (by decide) (by decide) ⟨Nat.le_of_ble_eq_true rfl, Nat.le_of_ble_eq_true rfl⟩ dX1_init_60 (fun q7 => ?_)
  refine mk_weq (ws' := [(h0, .inr (1, [.ref q1, .ref q2, .ref q3, .ref q4, .ref q5, .ref q6, .null, .null, .null, .int 0, .null, .null, .null, .int 0])), (q1, .inl (cI, 200, .inl (fun _ => 0))), (q2, .inl (cI, 200, .inl (fun _ => 0))), (q3, .inl (cI, 200, .inl (fun _ => 0))), (q4, .inl (cI, 200, .inl (fun _ => 0))), (q5, .inl (cI, 200, .inl (fun _ => 0))), (q6, .inl (cI, 10, .inl (fun _ => 0))), (q7, .inl (cI, 10, .inl (fun _ => 0)))]) rfl ?_
  refine mk_putF C hnm mk_inX1 tyX1 tyX1_ok nmX1 0 rfl rfl 6 (by decide) mw_203 rfl rfl rfl rfl (Nat.le_of_ble_eq_true rfl) (ws' := [(h0, .inr (1, [.ref q1, .ref q2, .ref q3, .ref q4, .ref q5, .ref q6, .ref q7, .null, .null, .int 0, .null, .null, .null, .int 0])), (q1, .inl (cI, 200, .inl (fun _ => 0))), (q2, .inl (cI, 200, .inl (fun _ => 0))), (q3, .inl (cI, 200, .inl (fun _ => 0))), (q4, .inl (cI, 200, .inl (fun _ => 0))), (q5, .inl (cI, 200, .inl (fun _ => 0))), (q6, .inl (cI, 10, .inl (fun _ => 0))), (q7, .inl (cI, 10, .inl (fun _ => 0)))]) rfl dX1_init_62 ?_
  refine mk_aload_n C 0 dX1_init_65 rfl ?_
  refine mk_bipush C (v := 10) dX1_init_66 (by decide) ?_
  refine mk_newaI C mw_53 (by decide) (N := 10) (by decide) (by decide) ⟨Nat.le_of_ble_eq_true rfl, Nat.le_of_ble_eq_true rfl⟩ dX1_init_68 (fun q8 => ?_)
  refine mk_weq (ws' := [(h0, .inr (1, [.ref q1, .ref q2, .ref q3, .ref q4, .ref q5, .ref q6, .ref q7, .null, .null, .int 0, .null, .null, .null, .int 0])), (q1, .inl (cI, 200, .inl (fun _ => 0))), (q2, .inl (cI, 200, .inl (fun _ => 0))), (q3, .inl (cI, 200, .inl (fun _ => 0))), (q4, .inl (cI, 200, .inl (fun _ => 0))), (q5, .inl (cI, 200, .inl (fun _ => 0))), (q6, .inl (cI, 10, .inl (fun _ => 0))), (q7, .inl (cI, 10, .inl (fun _ => 0))), (q8, .inl (cI, 10, .inl (fun _ => 0)))]) rfl ?_
  refine mk_putF C hnm mk_inX1 tyX1 tyX1_ok nmX1 0 rfl rfl 7 (by decide) mw_206 rfl rfl rfl rfl (Nat.le_of_ble_eq_true rfl) (ws' := [(h0, .inr (1, [.ref q1, .ref q2, .ref q3, .ref q4, .ref q5, .ref q6, .ref q7, .ref q8, .null, .int 0, .null, .null, .null, .int 0])), (q1, .inl (cI, 200, .inl (fun _ => 0))), (q2, .inl (cI, 200, .inl (fun _ => 0))), (q3, .inl (cI, 200, .inl (fun _ => 0))), (q4, .inl (cI, 200, .inl (fun _ => 0))), (q5, .inl (cI, 200, .inl (fun _ => 0))), (q6, .inl (cI, 10, .inl (fun _ => 0))), (q7, .inl (cI, 10, .inl (fun _ => 0))), (q8, .inl (cI, 10, .inl (fun _ => 0)))]) rfl dX1_init_70 ?_
  refine mk_aload_n C 0 dX1_init_73 rfl ?_
  refine mk_bipush C (v := 10) dX1_init_74 (by decide) ?_
  refine mk_newaI C mw_53 (by decide) (N := 10) (by decide) (by decide) ⟨Nat.le_of_ble_eq_true rfl, Nat.le_of_ble_eq_true rfl⟩ dX1_init_76 (fun q9 => ?_)
  refine mk_weq (ws' := [(h0, .inr (1, [.ref q1, .ref q2, .ref q3, .ref q4, .ref q5, .ref q6, .ref q7, .ref q8, .null, .int 0, .null, .null, .null, .int 0])), (q1, .inl (cI, 200, .inl (fun _ => 0))), (q2, .inl (cI, 200, .inl (fun _ => 0))), (q3, .inl (cI, 200, .inl (fun _ => 0))), (q4, .inl (cI, 200, .inl (fun _ => 0))), (q5, .inl (cI, 200, .inl (fun _ => 0))), (q6, .inl (cI, 10, .inl (fun _ => 0))), (q7, .inl (cI, 10, .inl (fun _ => 0))), (q8, .inl (cI, 10, .inl (fun _ => 0))), (q9, .inl (cI, 10, .inl (fun _ => 0)))]) rfl ?_
  refine mk_putF C hnm mk_inX1 tyX1 tyX1_ok nmX1 0 rfl rfl 8 (by decide) mw_209 rfl rfl rfl rfl (Nat.le_of_ble_eq_true rfl) (ws' := [(h0, .inr (1, [.ref q1, .ref q2, .ref q3, .ref q4, .ref q5, .ref q6, .ref q7, .ref q8, .ref q9, .int 0, .null, .null, .null, .int 0])), (q1, .inl (cI, 200, .inl (fun _ => 0))), (q2, .inl (cI, 200, .inl (fun _ => 0))), (q3, .inl (cI, 200, .inl (fun _ => 0))), (q4, .inl (cI, 200, .inl (fun _ => 0))), (q5, .inl (cI, 200, .inl (fun _ => 0))), (q6, .inl (cI, 10, .inl (fun _ => 0))), (q7, .inl (cI, 10, .inl (fun _ => 0))), (q8, .inl (cI, 10, .inl (fun _ => 0))), (q9, .inl (cI, 10, .inl (fun _ => 0)))]) rfl dX1_init_78 ?_
  refine mk_aload_n C 0 dX1_init_81 rfl ?_
  refine mk_sipush C (v := 200) dX1_init_82 (by decide) ?_
  refine mk_newaI C mw_53 (by decide) (N := 200) (by decide) (by decide) ⟨Nat.le_of_ble_eq_true rfl, Nat.le_of_ble_eq_true rfl⟩ dX1_init_85 (fun q10 => ?_)
  refine mk_weq (ws' := [(h0, .inr (1, [.ref q1, .ref q2, .ref q3, .ref q4, .ref q5, .ref q6, .ref q7, .ref q8, .ref q9, .int 0, .null, .null, .null, .int 0])), (q1, .inl (cI, 200, .inl (fun _ => 0))), (q2, .inl (cI, 200, .inl (fun _ => 0))), (q3, .inl (cI, 200, .inl (fun _ => 0))), (q4, .inl (cI, 200, .inl (fun _ => 0))), (q5, .inl (cI, 200, .inl (fun _ => 0))), (q6, .inl (cI, 10, .inl (fun _ => 0))), (q7, .inl (cI, 10, .inl (fun _ => 0))), (q8, .inl (cI, 10, .inl (fun _ => 0))), (q9, .inl (cI, 10, .inl (fun _ => 0))), (q10, .inl (cI, 200, .inl (fun _ => 0)))]) rfl ?_
  refine mk_putF C hnm mk_inX1 tyX1 tyX1_ok nmX1 0 rfl rfl 10 (by decide) mw_214 rfl rfl rfl rfl (Nat.le_of_ble_eq_true rfl) (ws' := [(h0, .inr (1, [.ref q1, .ref q2, .ref q3, .ref q4, .ref q5, .ref q6, .ref q7, .ref q8, .ref q9, .int 0, .ref q10, .null, .null, .int 0])), (q1, .inl (cI, 200, .inl (fun _ => 0))), (q2, .inl (cI, 200, .inl (fun _ => 0))), (q3, .inl (cI, 200, .inl (fun _ => 0))), (q4, .inl (cI, 200, .inl (fun _ => 0))), (q5, .inl (cI, 200, .inl (fun _ => 0))), (q6, .inl (cI, 10, .inl (fun _ => 0))), (q7, .inl (cI, 10, .inl (fun _ => 0))), (q8, .inl (cI, 10, .inl (fun _ => 0))), (q9, .inl (cI, 10, .inl (fun _ => 0))), (q10, .inl (cI, 200, .inl (fun _ => 0)))]) rfl dX1_init_87 ?_
  refine mk_aload_n C 0 dX1_init_90 rfl ?_
  refine mk_sipush C (v := 200) dX1_init_91 (by decide) ?_
  refine mk_newaI C mw_53 (by decide) (N := 200) (by decide) (by decide) ⟨Nat.le_of_ble_eq_true rfl, Nat.le_of_ble_eq_true rfl⟩ dX1_init_94 (fun q11 => ?_)
  refine mk_weq (ws' := [(h0, .inr (1, [.ref q1, .ref q2, .ref q3, .ref q4, .ref q5, .ref q6, .ref q7, .ref q8, .ref q9, .int 0, .ref q10, .null, .null, .int 0])), (q1, .inl (cI, 200, .inl (fun _ => 0))), (q2, .inl (cI, 200, .inl (fun _ => 0))), (q3, .inl (cI, 200, .inl (fun _ => 0))), (q4, .inl (cI, 200, .inl (fun _ => 0))), (q5, .inl (cI, 200, .inl (fun _ => 0))), (q6, .inl (cI, 10, .inl (fun _ => 0))), (q7, .inl (cI, 10, .inl (fun _ => 0))), (q8, .inl (cI, 10, .inl (fun _ => 0))), (q9, .inl (cI, 10, .inl (fun _ => 0))), (q10, .inl (cI, 200, .inl (fun _ => 0))), (q11, .inl (cI, 200, .inl (fun _ => 0)))]) rfl ?_
  refine mk_putF C hnm mk_inX1 tyX1 tyX1_ok nmX1 0 rfl rfl 11 (by decide) mw_215 rfl rfl rfl rfl (Nat.le_of_ble_eq_true rfl) (ws' := [(h0, .inr (1, [.ref q1, .ref q2, .ref q3, .ref q4, .ref q5, .ref q6, .ref q7, .ref q8, .ref q9, .int 0, .ref q10, .ref q11, .null, .int 0])), (q1, .inl (cI, 200, .inl (fun _ => 0))), (q2, .inl (cI, 200, .inl (fun _ => 0))), (q3, .inl (cI, 200, .inl (fun _ => 0))), (q4, .inl (cI, 200, .inl (fun _ => 0))), (q5, .inl (cI, 200, .inl (fun _ => 0))), (q6, .inl (cI, 10, .inl (fun _ => 0))), (q7, .inl (cI, 10, .inl (fun _ => 0))), (q8, .inl (cI, 10, .inl (fun _ => 0))), (q9, .inl (cI, 10, .inl (fun _ => 0))), (q10, .inl (cI, 200, .inl (fun _ => 0))), (q11, .inl (cI, 200, .inl (fun _ => 0)))]) rfl dX1_init_96 ?_
  refine mk_aload_n C 0 dX1_init_99 rfl ?_
  refine mk_sipush C (v := 200) dX1_init_100 (by decide) ?_
  refine mk_newaI C mw_53 (by decide) (N := 200) (by decide) (by decide) ⟨Nat.le_of_ble_eq_true rfl, Nat.le_of_ble_eq_true rfl⟩ dX1_init_103 (fun q12 => ?_)
  refine mk_weq (ws' := [(h0, .inr (1, [.ref q1, .ref q2, .ref q3, .ref q4, .ref q5, .ref q6, .ref q7, .ref q8, .ref q9, .int 0, .ref q10, .ref q11, .null, .int 0])), (q1, .inl (cI, 200, .inl (fun _ => 0))), (q2, .inl (cI, 200, .inl (fun _ => 0))), (q3, .inl (cI, 200, .inl (fun _ => 0))), (q4, .inl (cI, 200, .inl (fun _ => 0))), (q5, .inl (cI, 200, .inl (fun _ => 0))), (q6, .inl (cI, 10, .inl (fun _ => 0))), (q7, .inl (cI, 10, .inl (fun _ => 0))), (q8, .inl (cI, 10, .inl (fun _ => 0))), (q9, .inl (cI, 10, .inl (fun _ => 0))), (q10, .inl (cI, 200, .inl (fun _ => 0))), (q11, .inl (cI, 200, .inl (fun _ => 0))), (q12, .inl (cI, 200, .inl (fun _ => 0)))]) rfl ?_
  refine mk_putF C hnm mk_inX1 tyX1 tyX1_ok nmX1 0 rfl rfl 12 (by decide) mw_217 rfl rfl rfl rfl (Nat.le_of_ble_eq_true rfl) (ws' := [(h0, .inr (1, [.ref q1, .ref q2, .ref q3, .ref q4, .ref q5, .ref q6, .ref q7, .ref q8, .ref q9, .int 0, .ref q10, .ref q11, .ref q12, .int 0])), (q1, .inl (cI, 200, .inl (fun _ => 0))), (q2, .inl (cI, 200, .inl (fun _ => 0))), (q3, .inl (cI, 200, .inl (fun _ => 0))), (q4, .inl (cI, 200, .inl (fun _ => 0))), (q5, .inl (cI, 200, .inl (fun _ => 0))), (q6, .inl (cI, 10, .inl (fun _ => 0))), (q7, .inl (cI, 10, .inl (fun _ => 0))), (q8, .inl (cI, 10, .inl (fun _ => 0))), (q9, .inl (cI, 10, .inl (fun _ => 0))), (q10, .inl (cI, 200, .inl (fun _ => 0))), (q11, .inl (cI, 200, .inl (fun _ => 0))), (q12, .inl (cI, 200, .inl (fun _ => 0)))]) rfl dX1_init_105 ?_
  exact mk_vretN C hr hlk (fun i => [h0, q1, q2, q3, q4, q5, q6, q7, q8, q9, 0, q10, q11, q12, 0].getD i 0) rfl rfl dX1_init_108
set_option maxHeartbeats 40000000 in
set_option maxRecDepth 100000 in
theorem c_M_init (l : Launch) (D : va_G) (cI cJ cB cZ cS : ClassId) (X : Nat → Nat) (Y : mk_Y) (h0 : Nat) : mk_MetN l yX2_init cX2_init 1 ({ frames := 1, cells := 3, slots := 70, locals := 12 }) D (mk_TY cI cJ cB cZ cS) X Y h0 2 [.null, .null, .null, .long 0, .long 0] (fun u : (Nat → Nat) => u 0) (fun u : (Nat → Nat) => wMeans u cJ mk_zL) 3 70 := by
  refine mk_startN (own := RX2) (by decide) rfl (Nat.le_of_ble_eq_true rfl) ?_
  intro sz p e s m args below meth c A C hr hlk hnm
  replace C : mk_Cx p s m args c cX2_init 1 RX2 D (mk_TY cI cJ cB cZ cS) X Y A := C
  replace hnm : meth.name = "<init>" := hnm
  refine mk_aload_n C 0 dX2_init_0 rfl ?_
  refine mk_objI C mw_316 mw_29 mw_30 ⟨Nat.le_of_ble_eq_true rfl, Nat.le_of_ble_eq_true rfl⟩ dX2_init_1 ?_
  refine mk_aload_n C 0 dX2_init_4 rfl ?_
  refine mk_bipush C (v := 9) dX2_init_5 (by decide) ?_
  refine mk_newaL C mw_331 (by decide) (N := 9) (by decide) (by decide) ⟨Nat.le_of_ble_eq_true rfl, Nat.le_of_ble_eq_true rfl⟩ dX2_init_7 (fun q1 => ?_)
  refine mk_weq (ws' := [(h0, .inr (2, [.null, .null, .null, .long 0, .long 0])), (q1, .inl (cJ, 9, .inr (.inl (fun _ => 0))))]) rfl ?_
  refine mk_putF C hnm mk_inX2 tyX2 tyX2_ok nmX2 0 rfl rfl 0 (by decide) mw_317 rfl rfl rfl rfl (Nat.le_of_ble_eq_true rfl) (ws' := [(h0, .inr (2, [.ref q1, .null, .null, .long 0, .long 0])), (q1, .inl (cJ, 9, .inr (.inl (fun _ => 0))))]) rfl dX2_init_9 ?_
  refine mk_aload_n C 0 dX2_init_12 rfl ?_
  refine mk_bipush C (v := 9) dX2_init_13 (by decide) ?_
  refine mk_newaL C mw_331 (by decide) (N := 9) (by decide) (by decide) ⟨Nat.le_of_ble_eq_true rfl, Nat.le_of_ble_eq_true rfl⟩ dX2_init_15 (fun q2 => ?_)
  refine mk_weq (ws' := [(h0, .inr (2, [.ref q1, .null, .null, .long 0, .long 0])), (q1, .inl (cJ, 9, .inr (.inl (fun _ => 0)))), (q2, .inl (cJ, 9, .inr (.inl (fun _ => 0))))]) rfl ?_
  refine mk_putF C hnm mk_inX2 tyX2 tyX2_ok nmX2 0 rfl rfl 1 (by decide) mw_318 rfl rfl rfl rfl (Nat.le_of_ble_eq_true rfl) (ws' := [(h0, .inr (2, [.ref q1, .ref q2, .null, .long 0, .long 0])), (q1, .inl (cJ, 9, .inr (.inl (fun _ => 0)))), (q2, .inl (cJ, 9, .inr (.inl (fun _ => 0))))]) rfl dX2_init_17 ?_
  refine mk_aload_n C 0 dX2_init_20 rfl ?_
  refine mk_bipush C (v := 52) dX2_init_21 (by decide) ?_
  refine mk_newaL C mw_331 (by decide) (N := 52) (by decide) (by decide) ⟨Nat.le_of_ble_eq_true rfl, Nat.le_of_ble_eq_true rfl⟩ dX2_init_23 (fun q3 => ?_)
  refine mk_weq (ws' := [(h0, .inr (2, [.ref q1, .ref q2, .null, .long 0, .long 0])), (q1, .inl (cJ, 9, .inr (.inl (fun _ => 0)))), (q2, .inl (cJ, 9, .inr (.inl (fun _ => 0)))), (q3, .inl (cJ, 52, .inr (.inl (fun _ => 0))))]) rfl ?_
  refine mk_putF C hnm mk_inX2 tyX2 tyX2_ok nmX2 0 rfl rfl 2 (by decide) mw_319 rfl rfl rfl rfl (Nat.le_of_ble_eq_true rfl) (ws' := [(h0, .inr (2, [.ref q1, .ref q2, .ref q3, .long 0, .long 0])), (q1, .inl (cJ, 9, .inr (.inl (fun _ => 0)))), (q2, .inl (cJ, 9, .inr (.inl (fun _ => 0)))), (q3, .inl (cJ, 52, .inr (.inl (fun _ => 0))))]) rfl dX2_init_25 ?_
  exact mk_vretN C hr hlk (fun i => [h0, q1, q2, q3, 0, 0].getD i 0) rfl rfl dX2_init_28
set_option maxHeartbeats 40000000 in
set_option maxRecDepth 100000 in
theorem c_R_init (l : Launch) (D : va_G) (cI cJ cB cZ cS : ClassId) (X : Nat → Nat) (Y : mk_Y) (h0 : Nat) : mk_MetN l yX5_init cX5_init 1 ({ frames := 2, cells := 8, slots := 564, locals := 32 }) D (mk_TY cI cJ cB cZ cS) X Y h0 5 [.null, .null, .int 0, .int 0, .int 0, .int 0, .int 0, .int 0] (fun u : (Nat → Nat) × (Nat → Nat) × (Nat → Nat) => u.1 0) (fun u : (Nat → Nat) × (Nat → Nat) × (Nat → Nat) => wReader u.1 u.2.1 u.2.2 (upF 7 (-1) mk_z) ++ (wTape u.2.1 cI mk_z ++ wPlan u.2.2 cI mk_z)) 8 564 := by
  refine mk_startN (own := RX5) (by decide) rfl (Nat.le_of_ble_eq_true rfl) ?_
  intro sz p e s m args below meth c A C hr hlk hnm
  replace C : mk_Cx p s m args c cX5_init 1 RX5 D (mk_TY cI cJ cB cZ cS) X Y A := C
  replace hnm : meth.name = "<init>" := hnm
  refine mk_aload_n C 0 dX5_init_0 rfl ?_
  refine mk_objI C mw_36 mw_29 mw_30 ⟨Nat.le_of_ble_eq_true rfl, Nat.le_of_ble_eq_true rfl⟩ dX5_init_1 ?_
  refine mk_aload_n C 0 dX5_init_4 rfl ?_
  refine mk_new C (ci := 7) mk_inX7 tyX7 tyX7_ok mw_37 mw_38 mw_3 rfl mk_df7 ⟨Nat.le_of_ble_eq_true rfl, Nat.le_of_ble_eq_true rfl⟩ dX5_init_5 (fun q1 => ?_)
  refine mk_dup C dX5_init_8 rfl ?_
  refine mk_callIN C (c_T_init l D cI cJ cB cZ cS X Y q1) (List.mem_of_getElem? (i := 1) rfl) mw_40 mw_3 mw_41 mkn_X7_init rfl ⟨Nat.le_of_ble_eq_true rfl, Nat.le_of_ble_eq_true rfl⟩ ⟨rfl, rfl⟩ ⟨Nat.le_of_ble_eq_true rfl, Nat.le_of_ble_eq_true rfl⟩ (List.Perm.refl _) (Nat.le_of_ble_eq_true rfl) dX5_init_9 (fun u hu => ?_)
  obtain ⟨aT, rfl⟩ : ∃ z, z = u := ⟨_, rfl⟩
  replace hu : aT 0 = q1 := hu
  subst hu
  show mk_Go _ _ _ _ _ _ _ _ _ _ _ _ _ _ _ _ _ ([(h0, .inr (5, [.null, .null, .int 0, .int 0, .int 0, .int 0, .int 0, .int 0]))] ++ (wTape aT cI mk_z)) _ _
  refine mk_putF C hnm mk_inX5 tyX5 tyX5_ok nmX5 0 rfl rfl 0 (by decide) mw_124 rfl rfl rfl rfl (Nat.le_of_ble_eq_true rfl) (ws' := ([(h0, .inr (5, [.ref (aT 0), .null, .int 0, .int 0, .int 0, .int 0, .int 0, .int 0]))] ++ (wTape aT cI mk_z))) rfl dX5_init_12 ?_
  refine mk_aload_n C 0 dX5_init_15 rfl ?_
  refine mk_new C (ci := 3) mk_inX3 tyX3 tyX3_ok mw_54 mw_55 mw_4 rfl mk_df3 ⟨Nat.le_of_ble_eq_true rfl, Nat.le_of_ble_eq_true rfl⟩ dX5_init_16 (fun q3 => ?_)
  refine mk_dup C dX5_init_19 rfl ?_
  refine mk_callIN C (c_P_init l D cI cJ cB cZ cS X Y q3) (List.mem_of_getElem? (i := 2) rfl) mw_57 mw_4 mw_58 mkn_X3_init rfl ⟨Nat.le_of_ble_eq_true rfl, Nat.le_of_ble_eq_true rfl⟩ ⟨rfl, rfl⟩ ⟨Nat.le_of_ble_eq_true rfl, Nat.le_of_ble_eq_true rfl⟩ (List.Perm.refl _) (Nat.le_of_ble_eq_true rfl) dX5_init_20 (fun u hu => ?_)
  obtain ⟨aD, rfl⟩ : ∃ z, z = u := ⟨_, rfl⟩
  replace hu : aD 0 = q3 := hu
  subst hu
  show mk_Go _ _ _ _ _ _ _ _ _ _ _ _ _ _ _ _ _ (([(h0, .inr (5, [.ref (aT 0), .null, .int 0, .int 0, .int 0, .int 0, .int 0, .int 0]))] ++ (wTape aT cI mk_z)) ++ (wPlan aD cI mk_z)) _ _
  refine mk_putF C hnm mk_inX5 tyX5 tyX5_ok nmX5 0 rfl rfl 1 (by decide) mw_126 rfl rfl rfl rfl (Nat.le_of_ble_eq_true rfl) (ws' := (([(h0, .inr (5, [.ref (aT 0), .ref (aD 0), .int 0, .int 0, .int 0, .int 0, .int 0, .int 0]))] ++ (wTape aT cI mk_z)) ++ (wPlan aD cI mk_z))) rfl dX5_init_23 ?_
  refine mk_aload_n C 0 dX5_init_26 rfl ?_
  refine mk_iconst C (v := (-1)) dX5_init_27 (by decide) ?_
  refine mk_put C mk_inX5 tyX5 tyX5_ok nmX5 0 rfl rfl 7 (by decide) mw_133 rfl rfl rfl (Nat.le_of_ble_eq_true rfl) (ws' := (([(h0, .inr (5, [.ref (aT 0), .ref (aD 0), .int 0, .int 0, .int 0, .int 0, .int 0, .int (-1)]))] ++ (wTape aT cI mk_z)) ++ (wPlan aD cI mk_z))) rfl dX5_init_28 ?_
  exact mk_vretN C hr hlk ((fun i => [h0, 0, 0, 0, 0, 0, 0, 0, 0].getD i 0), aT, aD) rfl rfl dX5_init_31
set_option maxHeartbeats 40000000 in
set_option maxRecDepth 100000 in
theorem c_Y_init (l : Launch) (D : va_G) (cI cJ cB cZ cS : ClassId) (X : Nat → Nat) (Y : mk_Y) (h0 : Nat) : mk_MetN l yX4_init cX4_init 1 ({ frames := 2, cells := 24, slots := 2333, locals := 32 }) D (mk_TY cI cJ cB cZ cS) X Y h0 4 [.null, .null, .null, .null, .int 0, .int 0, .int 0, .int 0, .int 0, .int 0, .int 0, .int 0, .int 0] (fun u : (Nat → Nat) × (Nat → Nat) × (Nat → Nat) × (Nat → Nat) => u.1 0) (fun u : (Nat → Nat) × (Nat → Nat) × (Nat → Nat) × (Nat → Nat) => wPlay u.1 u.2.1 u.2.2.1 (u.2.2.2 0) cI mk_z ++ (wPlan u.2.1 cI mk_z ++ (wStack u.2.2.1 cI mk_z ++ wCourse u.2.2.2 cI mk_z))) 24 2333 := by
  refine mk_startN (own := RX4) (by decide) rfl (Nat.le_of_ble_eq_true rfl) ?_
  intro sz p e s m args below meth c A C hr hlk hnm
  replace C : mk_Cx p s m args c cX4_init 1 RX4 D (mk_TY cI cJ cB cZ cS) X Y A := C
  replace hnm : meth.name = "<init>" := hnm
  refine mk_aload_n C 0 dX4_init_0 rfl ?_
  refine mk_objI C mw_156 mw_29 mw_30 ⟨Nat.le_of_ble_eq_true rfl, Nat.le_of_ble_eq_true rfl⟩ dX4_init_1 ?_
  refine mk_aload_n C 0 dX4_init_4 rfl ?_
  refine mk_new C (ci := 3) mk_inX3 tyX3 tyX3_ok mw_157 mw_55 mw_4 rfl mk_df3 ⟨Nat.le_of_ble_eq_true rfl, Nat.le_of_ble_eq_true rfl⟩ dX4_init_5 (fun q1 => ?_)
  refine mk_dup C dX4_init_8 rfl ?_
  refine mk_callIN C (c_P_init l D cI cJ cB cZ cS X Y q1) (List.mem_of_getElem? (i := 4) rfl) mw_57 mw_4 mw_58 mkn_X3_init rfl ⟨Nat.le_of_ble_eq_true rfl, Nat.le_of_ble_eq_true rfl⟩ ⟨rfl, rfl⟩ ⟨Nat.le_of_ble_eq_true rfl, Nat.le_of_ble_eq_true rfl⟩ (List.Perm.refl _) (Nat.le_of_ble_eq_true rfl) dX4_init_9 (fun u hu => ?_)
  obtain ⟨aP, rfl⟩ : ∃ z, z = u := ⟨_, rfl⟩
  replace hu : aP 0 = q1 := hu
  subst hu
  show mk_Go _ _ _ _ _ _ _ _ _ _ _ _ _ _ _ _ _ ([(h0, .inr (4, [.null, .null, .null, .null, .int 0, .int 0, .int 0, .int 0, .int 0, .int 0, .int 0, .int 0, .int 0]))] ++ (wPlan aP cI mk_z)) _ _
  refine mk_putF C hnm mk_inX4 tyX4 tyX4_ok nmX4 0 rfl rfl 0 (by decide) mw_250 rfl rfl rfl rfl (Nat.le_of_ble_eq_true rfl) (ws' := ([(h0, .inr (4, [.ref (aP 0), .null, .null, .null, .int 0, .int 0, .int 0, .int 0, .int 0, .int 0, .int 0, .int 0, .int 0]))] ++ (wPlan aP cI mk_z))) rfl dX4_init_12 ?_
  refine mk_aload_n C 0 dX4_init_15 rfl ?_
  refine mk_new C (ci := 6) mk_inX6 tyX6 tyX6_ok mw_159 mw_160 mw_6 rfl mk_df6 ⟨Nat.le_of_ble_eq_true rfl, Nat.le_of_ble_eq_true rfl⟩ dX4_init_16 (fun q3 => ?_)
  refine mk_dup C dX4_init_19 rfl ?_
  refine mk_callIN C (c_S_init l D cI cJ cB cZ cS X Y q3) (List.mem_of_getElem? (i := 5) rfl) mw_162 mw_6 mw_163 mkn_X6_init rfl ⟨Nat.le_of_ble_eq_true rfl, Nat.le_of_ble_eq_true rfl⟩ ⟨rfl, rfl⟩ ⟨Nat.le_of_ble_eq_true rfl, Nat.le_of_ble_eq_true rfl⟩ (List.Perm.refl _) (Nat.le_of_ble_eq_true rfl) dX4_init_20 (fun u hu => ?_)
  obtain ⟨aS, rfl⟩ : ∃ z, z = u := ⟨_, rfl⟩
  replace hu : aS 0 = q3 := hu
  subst hu
  show mk_Go _ _ _ _ _ _ _ _ _ _ _ _ _ _ _ _ _ (([(h0, .inr (4, [.ref (aP 0), .null, .null, .null, .int 0, .int 0, .int 0, .int 0, .int 0, .int 0, .int 0, .int 0, .int 0]))] ++ (wPlan aP cI mk_z)) ++ (wStack aS cI mk_z)) _ _
  refine mk_putF C hnm mk_inX4 tyX4 tyX4_ok nmX4 0 rfl rfl 1 (by decide) mw_252 rfl rfl rfl rfl (Nat.le_of_ble_eq_true rfl) (ws' := (([(h0, .inr (4, [.ref (aP 0), .ref (aS 0), .null, .null, .int 0, .int 0, .int 0, .int 0, .int 0, .int 0, .int 0, .int 0, .int 0]))] ++ (wPlan aP cI mk_z)) ++ (wStack aS cI mk_z))) rfl dX4_init_23 ?_
  refine mk_aload_n C 0 dX4_init_26 rfl ?_
  refine mk_bipush C (v := 10) dX4_init_27 (by decide) ?_
  refine mk_newaI C mw_53 (by decide) (N := 10) (by decide) (by decide) ⟨Nat.le_of_ble_eq_true rfl, Nat.le_of_ble_eq_true rfl⟩ dX4_init_29 (fun q5 => ?_)
  refine mk_putF C hnm mk_inX4 tyX4 tyX4_ok nmX4 0 rfl rfl 2 (by decide) mw_253 rfl rfl rfl rfl (Nat.le_of_ble_eq_true rfl) (ws' := ((([(h0, .inr (4, [.ref (aP 0), .ref (aS 0), .ref q5, .null, .int 0, .int 0, .int 0, .int 0, .int 0, .int 0, .int 0, .int 0, .int 0]))] ++ (wPlan aP cI mk_z)) ++ (wStack aS cI mk_z)) ++ [(q5, .inl (cI, 10, .inl (fun _ => 0)))])) rfl dX4_init_31 ?_
  refine mk_aload_n C 0 dX4_init_34 rfl ?_
  refine mk_new C (ci := 1) mk_inX1 tyX1 tyX1_ok mw_181 mw_182 mw_7 rfl mk_df1 ⟨Nat.le_of_ble_eq_true rfl, Nat.le_of_ble_eq_true rfl⟩ dX4_init_35 (fun q6 => ?_)
  refine mk_dup C dX4_init_38 rfl ?_
  refine mk_callIN C (c_C_init l D cI cJ cB cZ cS X Y q6) (List.mem_of_getElem? (i := 6) rfl) mw_184 mw_7 mw_185 mkn_X1_init rfl ⟨Nat.le_of_ble_eq_true rfl, Nat.le_of_ble_eq_true rfl⟩ ⟨rfl, rfl⟩ ⟨Nat.le_of_ble_eq_true rfl, Nat.le_of_ble_eq_true rfl⟩ (List.Perm.refl _) (Nat.le_of_ble_eq_true rfl) dX4_init_39 (fun u hu => ?_)
  obtain ⟨aC, rfl⟩ : ∃ z, z = u := ⟨_, rfl⟩
  replace hu : aC 0 = q6 := hu
  subst hu
  show mk_Go _ _ _ _ _ _ _ _ _ _ _ _ _ _ _ _ _ (((([(h0, .inr (4, [.ref (aP 0), .ref (aS 0), .ref q5, .null, .int 0, .int 0, .int 0, .int 0, .int 0, .int 0, .int 0, .int 0, .int 0]))] ++ (wPlan aP cI mk_z)) ++ (wStack aS cI mk_z)) ++ [(q5, .inl (cI, 10, .inl (fun _ => 0)))]) ++ (wCourse aC cI mk_z)) _ _
  refine mk_put C mk_inX4 tyX4 tyX4_ok nmX4 0 rfl rfl 3 (by decide) mw_254 rfl rfl rfl (Nat.le_of_ble_eq_true rfl) (ws' := (((([(h0, .inr (4, [.ref (aP 0), .ref (aS 0), .ref q5, .ref (aC 0), .int 0, .int 0, .int 0, .int 0, .int 0, .int 0, .int 0, .int 0, .int 0]))] ++ (wPlan aP cI mk_z)) ++ (wStack aS cI mk_z)) ++ [(q5, .inl (cI, 10, .inl (fun _ => 0)))]) ++ (wCourse aC cI mk_z))) rfl dX4_init_42 ?_
  refine mk_perm (ws' := ([(h0, .inr (4, [.ref (aP 0), .ref (aS 0), .ref q5, .ref (aC 0), .int 0, .int 0, .int 0, .int 0, .int 0, .int 0, .int 0, .int 0, .int 0]))] ++ ([(q5, .inl (cI, 10, .inl (fun _ => 0)))] ++ ((wPlan aP cI mk_z) ++ ((wStack aS cI mk_z) ++ ((wCourse aC cI mk_z))))))) (by simpa only [List.map_cons, List.map_nil, List.flatten_cons, List.flatten_nil, List.append_nil, List.append_assoc] using mk_pf (fun i => match i with | 0 => [(h0, .inr (4, [.ref (aP 0), .ref (aS 0), .ref q5, .ref (aC 0), .int 0, .int 0, .int 0, .int 0, .int 0, .int 0, .int 0, .int 0, .int 0]))] | 1 => (wPlan aP cI mk_z) | 2 => (wStack aS cI mk_z) | 3 => [(q5, .inl (cI, 10, .inl (fun _ => 0)))] | 4 => (wCourse aC cI mk_z) | _ => []) [0, 1, 2, 3, 4] [0, 3, 1, 2, 4] (by decide)) ?_
  exact mk_vretN C hr hlk ((fun i => [h0, 0, 0, q5, 0, 0, 0, 0, 0, 0, 0, 0, 0, 0].getD i 0), aP, aS, aC) rfl rfl dX4_init_45
set_option maxHeartbeats 40000000 in
set_option maxRecDepth 100000 in
theorem c_Z_init (l : Launch) (D : va_G) (cI cJ cB cZ cS : ClassId) (X : Nat → Nat) (Y : mk_Y) (h0 : Nat) : mk_MetN l yX8_init cX8_init 1 ({ frames := 3, cells := 54, slots := 4690, locals := 52 }) D (mk_TY cI cJ cB cZ cS) X Y h0 8 [.null, .null, .null, .null, .null, .null, .null, .null, .null] (fun u : (Nat → Nat) × (Nat → Nat) × (Nat → Nat) × (Nat → Nat) × (Nat → Nat) × (Nat → Nat) × (Nat → Nat) × (Nat → Nat) × (Nat → Nat) × (Nat → Nat) × (Nat → Nat) => u.1 0) (fun u : (Nat → Nat) × (Nat → Nat) × (Nat → Nat) × (Nat → Nat) × (Nat → Nat) × (Nat → Nat) × (Nat → Nat) × (Nat → Nat) × (Nat → Nat) × (Nat → Nat) × (Nat → Nat) => wChan u.1 u.2.1 u.2.2.1 u.2.2.2.1 u.2.2.2.2.1 u.2.2.2.2.2.1 u.2.2.2.2.2.2.2.1 u.2.2.2.2.2.2.2.2.1 u.2.2.2.2.2.2.2.2.2.1 u.2.2.2.2.2.2.2.2.2.2 ++ ((wReader u.2.1 u.2.2.1 u.2.2.2.1 (upF 7 (-1) mk_z) ++ (wTape u.2.2.1 cI mk_z ++ wPlan u.2.2.2.1 cI mk_z)) ++ ((wPlay u.2.2.2.2.1 u.2.2.2.2.2.1 u.2.2.2.2.2.2.1 (u.2.2.2.2.2.2.2.1 0) cI mk_z ++ (wPlan u.2.2.2.2.2.1 cI mk_z ++ (wStack u.2.2.2.2.2.2.1 cI mk_z ++ wCourse u.2.2.2.2.2.2.2.1 cI mk_z))) ++ (wCourse u.2.2.2.2.2.2.2.2.1 cI mk_z ++ (wActs u.2.2.2.2.2.2.2.2.2.1 cI mk_z ++ wMeans u.2.2.2.2.2.2.2.2.2.2 cJ mk_zL))))) 54 4690 := by
  refine mk_startN (own := RX8) (by decide) rfl (Nat.le_of_ble_eq_true rfl) ?_
  intro sz p e s m args below meth c A C hr hlk hnm
  replace C : mk_Cx p s m args c cX8_init 1 RX8 D (mk_TY cI cJ cB cZ cS) X Y A := C
  replace hnm : meth.name = "<init>" := hnm
  refine mk_aload_n C 0 dX8_init_0 rfl ?_
  refine mk_objI C mw_28 mw_29 mw_30 ⟨Nat.le_of_ble_eq_true rfl, Nat.le_of_ble_eq_true rfl⟩ dX8_init_1 ?_
  refine mk_aload_n C 0 dX8_init_4 rfl ?_
  refine mk_new C (ci := 5) mk_inX5 tyX5 tyX5_ok mw_31 mw_32 mw_2 rfl mk_df5 ⟨Nat.le_of_ble_eq_true rfl, Nat.le_of_ble_eq_true rfl⟩ dX8_init_5 (fun q1 => ?_)
  refine mk_dup C dX8_init_8 rfl ?_
  refine mk_callIN C (c_R_init l D cI cJ cB cZ cS X Y q1) (List.mem_of_getElem? (i := 0) rfl) mw_34 mw_2 mw_35 mkn_X5_init rfl ⟨Nat.le_of_ble_eq_true rfl, Nat.le_of_ble_eq_true rfl⟩ ⟨rfl, rfl⟩ ⟨Nat.le_of_ble_eq_true rfl, Nat.le_of_ble_eq_true rfl⟩ (List.Perm.refl _) (Nat.le_of_ble_eq_true rfl) dX8_init_9 (fun u hu => ?_)
  obtain ⟨aR, aT, aD⟩ := u
  replace hu : aR 0 = q1 := hu
  subst hu
  show mk_Go _ _ _ _ _ _ _ _ _ _ _ _ _ _ _ _ _ ([(h0, .inr (8, [.null, .null, .null, .null, .null, .null, .null, .null, .null]))] ++ (wReader aR aT aD (upF 7 (-1) mk_z) ++ (wTape aT cI mk_z ++ wPlan aD cI mk_z))) _ _
  refine mk_putF C hnm mk_inX8 tyX8 tyX8_ok nmX8 0 rfl rfl 0 (by decide) mw_332 rfl rfl rfl rfl (Nat.le_of_ble_eq_true rfl) (ws' := ([(h0, .inr (8, [.ref (aR 0), .null, .null, .null, .null, .null, .null, .null, .null]))] ++ (wReader aR aT aD (upF 7 (-1) mk_z) ++ (wTape aT cI mk_z ++ wPlan aD cI mk_z)))) rfl dX8_init_12 ?_
  refine mk_aload_n C 0 dX8_init_15 rfl ?_
  refine mk_aload_n C 0 dX8_init_16 rfl ?_
  refine mk_get C mk_inX8 0 rfl rfl 0 (by decide) mw_332 (v := .ref (aR 0)) rfl dX8_init_17 ?_
  refine mk_get C mk_inX5 1 rfl rfl 0 (by decide) mw_125 (v := .ref (aT 0)) rfl dX8_init_20 ?_
  refine mk_putF C hnm mk_inX8 tyX8 tyX8_ok nmX8 0 rfl rfl 1 (by decide) mw_333 rfl rfl rfl rfl (Nat.le_of_ble_eq_true rfl) (ws' := ([(h0, .inr (8, [.ref (aR 0), .ref (aT 0), .null, .null, .null, .null, .null, .null, .null]))] ++ (wReader aR aT aD (upF 7 (-1) mk_z) ++ (wTape aT cI mk_z ++ wPlan aD cI mk_z)))) rfl dX8_init_23 ?_
  refine mk_aload_n C 0 dX8_init_26 rfl ?_
  refine mk_aload_n C 0 dX8_init_27 rfl ?_
  refine mk_get C mk_inX8 0 rfl rfl 0 (by decide) mw_332 (v := .ref (aR 0)) rfl dX8_init_28 ?_
  refine mk_get C mk_inX5 1 rfl rfl 1 (by decide) mw_127 (v := .ref (aD 0)) rfl dX8_init_31 ?_
  refine mk_putF C hnm mk_inX8 tyX8 tyX8_ok nmX8 0 rfl rfl 2 (by decide) mw_334 rfl rfl rfl rfl (Nat.le_of_ble_eq_true rfl) (ws' := ([(h0, .inr (8, [.ref (aR 0), .ref (aT 0), .ref (aD 0), .null, .null, .null, .null, .null, .null]))] ++ (wReader aR aT aD (upF 7 (-1) mk_z) ++ (wTape aT cI mk_z ++ wPlan aD cI mk_z)))) rfl dX8_init_34 ?_
  refine mk_aload_n C 0 dX8_init_37 rfl ?_
  refine mk_new C (ci := 4) mk_inX4 tyX4 tyX4_ok mw_151 mw_152 mw_5 rfl mk_df4 ⟨Nat.le_of_ble_eq_true rfl, Nat.le_of_ble_eq_true rfl⟩ dX8_init_38 (fun q3 => ?_)
  refine mk_dup C dX8_init_41 rfl ?_
  refine mk_callIN C (c_Y_init l D cI cJ cB cZ cS X Y q3) (List.mem_of_getElem? (i := 3) rfl) mw_154 mw_5 mw_155 mkn_X4_init rfl ⟨Nat.le_of_ble_eq_true rfl, Nat.le_of_ble_eq_true rfl⟩ ⟨rfl, rfl⟩ ⟨Nat.le_of_ble_eq_true rfl, Nat.le_of_ble_eq_true rfl⟩ (List.Perm.refl _) (Nat.le_of_ble_eq_true rfl) dX8_init_42 (fun u hu => ?_)
  obtain ⟨aY, aP, aS, aC⟩ := u
  replace hu : aY 0 = q3 := hu
  subst hu
  show mk_Go _ _ _ _ _ _ _ _ _ _ _ _ _ _ _ _ _ (([(h0, .inr (8, [.ref (aR 0), .ref (aT 0), .ref (aD 0), .null, .null, .null, .null, .null, .null]))] ++ (wReader aR aT aD (upF 7 (-1) mk_z) ++ (wTape aT cI mk_z ++ wPlan aD cI mk_z))) ++ (wPlay aY aP aS (aC 0) cI mk_z ++ (wPlan aP cI mk_z ++ (wStack aS cI mk_z ++ wCourse aC cI mk_z)))) _ _
  refine mk_putF C hnm mk_inX8 tyX8 tyX8_ok nmX8 0 rfl rfl 3 (by decide) mw_335 rfl rfl rfl rfl (Nat.le_of_ble_eq_true rfl) (ws' := (([(h0, .inr (8, [.ref (aR 0), .ref (aT 0), .ref (aD 0), .ref (aY 0), .null, .null, .null, .null, .null]))] ++ (wReader aR aT aD (upF 7 (-1) mk_z) ++ (wTape aT cI mk_z ++ wPlan aD cI mk_z))) ++ (wPlay aY aP aS (aC 0) cI mk_z ++ (wPlan aP cI mk_z ++ (wStack aS cI mk_z ++ wCourse aC cI mk_z))))) rfl dX8_init_45 ?_
  refine mk_aload_n C 0 dX8_init_48 rfl ?_
  refine mk_aload_n C 0 dX8_init_49 rfl ?_
  refine mk_get C mk_inX8 0 rfl rfl 3 (by decide) mw_335 (v := .ref (aY 0)) rfl dX8_init_50 ?_
  refine mk_get C mk_inX4 10 rfl rfl 0 (by decide) mw_251 (v := .ref (aP 0)) rfl dX8_init_53 ?_
  refine mk_putF C hnm mk_inX8 tyX8 tyX8_ok nmX8 0 rfl rfl 4 (by decide) mw_336 rfl rfl rfl rfl (Nat.le_of_ble_eq_true rfl) (ws' := (([(h0, .inr (8, [.ref (aR 0), .ref (aT 0), .ref (aD 0), .ref (aY 0), .ref (aP 0), .null, .null, .null, .null]))] ++ (wReader aR aT aD (upF 7 (-1) mk_z) ++ (wTape aT cI mk_z ++ wPlan aD cI mk_z))) ++ (wPlay aY aP aS (aC 0) cI mk_z ++ (wPlan aP cI mk_z ++ (wStack aS cI mk_z ++ wCourse aC cI mk_z))))) rfl dX8_init_56 ?_
  refine mk_aload_n C 0 dX8_init_59 rfl ?_
  refine mk_aload_n C 0 dX8_init_60 rfl ?_
  refine mk_get C mk_inX8 0 rfl rfl 3 (by decide) mw_335 (v := .ref (aY 0)) rfl dX8_init_61 ?_
  refine mk_get C mk_inX4 10 rfl rfl 3 (by decide) mw_255 (v := .ref (aC 0)) rfl dX8_init_64 ?_
  refine mk_putF C hnm mk_inX8 tyX8 tyX8_ok nmX8 0 rfl rfl 5 (by decide) mw_337 rfl rfl rfl rfl (Nat.le_of_ble_eq_true rfl) (ws' := (([(h0, .inr (8, [.ref (aR 0), .ref (aT 0), .ref (aD 0), .ref (aY 0), .ref (aP 0), .ref (aC 0), .null, .null, .null]))] ++ (wReader aR aT aD (upF 7 (-1) mk_z) ++ (wTape aT cI mk_z ++ wPlan aD cI mk_z))) ++ (wPlay aY aP aS (aC 0) cI mk_z ++ (wPlan aP cI mk_z ++ (wStack aS cI mk_z ++ wCourse aC cI mk_z))))) rfl dX8_init_67 ?_
  refine mk_aload_n C 0 dX8_init_70 rfl ?_
  refine mk_new C (ci := 1) mk_inX1 tyX1 tyX1_ok mw_292 mw_182 mw_7 rfl mk_df1 ⟨Nat.le_of_ble_eq_true rfl, Nat.le_of_ble_eq_true rfl⟩ dX8_init_71 (fun q5 => ?_)
  refine mk_dup C dX8_init_74 rfl ?_
  refine mk_callIN C (c_C_init l D cI cJ cB cZ cS X Y q5) (List.mem_of_getElem? (i := 7) rfl) mw_184 mw_7 mw_185 mkn_X1_init rfl ⟨Nat.le_of_ble_eq_true rfl, Nat.le_of_ble_eq_true rfl⟩ ⟨rfl, rfl⟩ ⟨Nat.le_of_ble_eq_true rfl, Nat.le_of_ble_eq_true rfl⟩ (List.Perm.refl _) (Nat.le_of_ble_eq_true rfl) dX8_init_75 (fun u hu => ?_)
  obtain ⟨aO, rfl⟩ : ∃ z, z = u := ⟨_, rfl⟩
  replace hu : aO 0 = q5 := hu
  subst hu
  show mk_Go _ _ _ _ _ _ _ _ _ _ _ _ _ _ _ _ _ ((([(h0, .inr (8, [.ref (aR 0), .ref (aT 0), .ref (aD 0), .ref (aY 0), .ref (aP 0), .ref (aC 0), .null, .null, .null]))] ++ (wReader aR aT aD (upF 7 (-1) mk_z) ++ (wTape aT cI mk_z ++ wPlan aD cI mk_z))) ++ (wPlay aY aP aS (aC 0) cI mk_z ++ (wPlan aP cI mk_z ++ (wStack aS cI mk_z ++ wCourse aC cI mk_z)))) ++ (wCourse aO cI mk_z)) _ _
  refine mk_putF C hnm mk_inX8 tyX8 tyX8_ok nmX8 0 rfl rfl 6 (by decide) mw_338 rfl rfl rfl rfl (Nat.le_of_ble_eq_true rfl) (ws' := ((([(h0, .inr (8, [.ref (aR 0), .ref (aT 0), .ref (aD 0), .ref (aY 0), .ref (aP 0), .ref (aC 0), .ref (aO 0), .null, .null]))] ++ (wReader aR aT aD (upF 7 (-1) mk_z) ++ (wTape aT cI mk_z ++ wPlan aD cI mk_z))) ++ (wPlay aY aP aS (aC 0) cI mk_z ++ (wPlan aP cI mk_z ++ (wStack aS cI mk_z ++ wCourse aC cI mk_z)))) ++ (wCourse aO cI mk_z))) rfl dX8_init_78 ?_
  refine mk_aload_n C 0 dX8_init_81 rfl ?_
  refine mk_new C (ci := 0) mk_inX0 tyX0 tyX0_ok mw_294 mw_295 mw_8 rfl mk_df0 ⟨Nat.le_of_ble_eq_true rfl, Nat.le_of_ble_eq_true rfl⟩ dX8_init_82 (fun q7 => ?_)
  refine mk_dup C dX8_init_85 rfl ?_
  refine mk_callIN C (c_A_init l D cI cJ cB cZ cS X Y q7) (List.mem_of_getElem? (i := 8) rfl) mw_297 mw_8 mw_298 mkn_X0_init rfl ⟨Nat.le_of_ble_eq_true rfl, Nat.le_of_ble_eq_true rfl⟩ ⟨rfl, rfl⟩ ⟨Nat.le_of_ble_eq_true rfl, Nat.le_of_ble_eq_true rfl⟩ (List.Perm.refl _) (Nat.le_of_ble_eq_true rfl) dX8_init_86 (fun u hu => ?_)
  obtain ⟨aA, rfl⟩ : ∃ z, z = u := ⟨_, rfl⟩
  replace hu : aA 0 = q7 := hu
  subst hu
  show mk_Go _ _ _ _ _ _ _ _ _ _ _ _ _ _ _ _ _ (((([(h0, .inr (8, [.ref (aR 0), .ref (aT 0), .ref (aD 0), .ref (aY 0), .ref (aP 0), .ref (aC 0), .ref (aO 0), .null, .null]))] ++ (wReader aR aT aD (upF 7 (-1) mk_z) ++ (wTape aT cI mk_z ++ wPlan aD cI mk_z))) ++ (wPlay aY aP aS (aC 0) cI mk_z ++ (wPlan aP cI mk_z ++ (wStack aS cI mk_z ++ wCourse aC cI mk_z)))) ++ (wCourse aO cI mk_z)) ++ (wActs aA cI mk_z)) _ _
  refine mk_putF C hnm mk_inX8 tyX8 tyX8_ok nmX8 0 rfl rfl 7 (by decide) mw_339 rfl rfl rfl rfl (Nat.le_of_ble_eq_true rfl) (ws' := (((([(h0, .inr (8, [.ref (aR 0), .ref (aT 0), .ref (aD 0), .ref (aY 0), .ref (aP 0), .ref (aC 0), .ref (aO 0), .ref (aA 0), .null]))] ++ (wReader aR aT aD (upF 7 (-1) mk_z) ++ (wTape aT cI mk_z ++ wPlan aD cI mk_z))) ++ (wPlay aY aP aS (aC 0) cI mk_z ++ (wPlan aP cI mk_z ++ (wStack aS cI mk_z ++ wCourse aC cI mk_z)))) ++ (wCourse aO cI mk_z)) ++ (wActs aA cI mk_z))) rfl dX8_init_89 ?_
  refine mk_aload_n C 0 dX8_init_92 rfl ?_
  refine mk_new C (ci := 2) mk_inX2 tyX2 tyX2_ok mw_311 mw_312 mw_9 rfl mk_df2 ⟨Nat.le_of_ble_eq_true rfl, Nat.le_of_ble_eq_true rfl⟩ dX8_init_93 (fun q9 => ?_)
  refine mk_dup C dX8_init_96 rfl ?_
  refine mk_callIN C (c_M_init l D cI cJ cB cZ cS X Y q9) (List.mem_of_getElem? (i := 9) rfl) mw_314 mw_9 mw_315 mkn_X2_init rfl ⟨Nat.le_of_ble_eq_true rfl, Nat.le_of_ble_eq_true rfl⟩ ⟨rfl, rfl⟩ ⟨Nat.le_of_ble_eq_true rfl, Nat.le_of_ble_eq_true rfl⟩ (List.Perm.refl _) (Nat.le_of_ble_eq_true rfl) dX8_init_97 (fun u hu => ?_)
  obtain ⟨aM, rfl⟩ : ∃ z, z = u := ⟨_, rfl⟩
  replace hu : aM 0 = q9 := hu
  subst hu
  show mk_Go _ _ _ _ _ _ _ _ _ _ _ _ _ _ _ _ _ ((((([(h0, .inr (8, [.ref (aR 0), .ref (aT 0), .ref (aD 0), .ref (aY 0), .ref (aP 0), .ref (aC 0), .ref (aO 0), .ref (aA 0), .null]))] ++ (wReader aR aT aD (upF 7 (-1) mk_z) ++ (wTape aT cI mk_z ++ wPlan aD cI mk_z))) ++ (wPlay aY aP aS (aC 0) cI mk_z ++ (wPlan aP cI mk_z ++ (wStack aS cI mk_z ++ wCourse aC cI mk_z)))) ++ (wCourse aO cI mk_z)) ++ (wActs aA cI mk_z)) ++ (wMeans aM cJ mk_zL)) _ _
  refine mk_putF C hnm mk_inX8 tyX8 tyX8_ok nmX8 0 rfl rfl 8 (by decide) mw_340 rfl rfl rfl rfl (Nat.le_of_ble_eq_true rfl) (ws' := ((((([(h0, .inr (8, [.ref (aR 0), .ref (aT 0), .ref (aD 0), .ref (aY 0), .ref (aP 0), .ref (aC 0), .ref (aO 0), .ref (aA 0), .ref (aM 0)]))] ++ (wReader aR aT aD (upF 7 (-1) mk_z) ++ (wTape aT cI mk_z ++ wPlan aD cI mk_z))) ++ (wPlay aY aP aS (aC 0) cI mk_z ++ (wPlan aP cI mk_z ++ (wStack aS cI mk_z ++ wCourse aC cI mk_z)))) ++ (wCourse aO cI mk_z)) ++ (wActs aA cI mk_z)) ++ (wMeans aM cJ mk_zL))) rfl dX8_init_100 ?_
  exact mk_vretN C hr hlk ((fun i => [h0, 0, 0, 0, 0, 0, 0, 0, 0, 0].getD i 0), aR, aT, aD, aY, aP, aS, aC, aO, aA, aM) rfl rfl dX8_init_103
