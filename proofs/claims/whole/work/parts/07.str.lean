theorem c_slen (l : Launch) (D : va_G) (cI cJ : ClassId) (X Y : Nat → Nat) (k : Nat) (hk : k < 13) : mk_Met l yJ0_length_8abf5 cJ0_length_8abf5 1 (some .int) ({ frames := 1, cells := 0, slots := 0, locals := 40 }) D [(cI, .int), (cJ, .long)] X Y [.ref (X k)] [] [] (some (.int (mkLen k))) 0 0 := by
  sorry
theorem c_sat (l : Launch) (D : va_G) (cI cJ : ClassId) (X Y : Nat → Nat) (k : Nat) (hk : k < 13) (i : Int32) (hi : vp_in i (mk_len.getD k 0)) : mk_Met l yJ0_charAt_5068e cJ0_charAt_5068e 2 (some .char) ({ frames := 5, cells := 0, slots := 0, locals := 160 }) D [(cI, .int), (cJ, .long)] X Y [.ref (X k), .int i] [] [] (some (.int (mkChr k i))) 0 0 := by
  sorry
