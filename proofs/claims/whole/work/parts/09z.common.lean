set_option maxRecDepth 100000 in
/-- Euclid by recursion: n calls stand open at most -/
theorem c_X_common (l : Launch) (D : va_G) (cI cJ : ClassId) (X Y : Nat → Nat) : ∀ (n : Nat) (a b r : Int64), f_X_common n a b = some r → mk_Met l yX9_common cX9_common 4 (some .long) ({ frames := n, cells := 0, slots := 0, locals := 24 * n }) D [(cI, .int), (cJ, .long)] X Y [.long a, .long b] ([] : va_W) ([] : va_W) (some (.long r)) 0 0 := by
  intro n
  induction n with
  | zero => intro a b r hf; exact nomatch (show (none : Option Int64) = some _ from hf)
  | succ n ih =>
    intro a b r hf
    rw [f_X_common] at hf
    refine mk_start (own := RX9) (by decide) rfl (Nat.le_of_ble_eq_true rfl) ?_
    intro sz p e s m args below meth c A C hr hlk hnm
    replace C : mk_Cx p s m args c cX9_common 4 RX9 D [(cI, .int), (cJ, .long)] X Y A := C
    refine mk_lload_n C 1 dX9_common_0 rfl ?_
    refine mk_lconst C (v := 0) dX9_common_1 (by decide) ?_
    refine mk_lcmp C dX9_common_2 ?_
    refine mk_if_ne C 10 dX9_common_3 (by decide) (fun c1 => ?_) (fun c1 => ?_)
    · have hb : ¬ b = 0 := fun q => c1 ((lg_cmp_eq b 0).mpr q)
      replace hf := (if_neg hb).symm.trans hf
      refine mk_lload_n C 1 dX9_common_10 rfl ?_
      refine mk_lload_n C 0 dX9_common_11 rfl ?_
      refine mk_lload_n C 1 dX9_common_12 rfl ?_
      refine mk_lrem C dX9_common_13 hb ?_
      refine mk_callSl C (ih b (a - a / b * b) r hf) mw_1331 mw_1332 mw_10 mw_1333 mkn_X9_common rfl ⟨by show n + 1 ≤ n + 1; omega, by show 8 + (4 + 11) + 24 * n ≤ 24 * (n + 1); omega⟩ (mk_Fr.nil _) (Nat.le_of_ble_eq_true rfl) dX9_common_14 rfl ?_
      exact mk_lret C hr hlk rfl rfl dX9_common_17
    · have hb : b = 0 := (lg_cmp_eq b 0).mp c1
      replace hf := (if_pos hb).symm.trans hf
      refine mk_lload_n C 0 dX9_common_6 rfl ?_
      refine mk_goto C 17 dX9_common_7 (by decide) ?_
      exact mk_lret C hr hlk (Option.some.inj hf) rfl dX9_common_17
