/-! tables, by program (gentab.py) -/
def tbl_ (l : List Nat) : Nat → Nat := fun k => l.getD k 0
theorem tab_0_1_2 : mk_T 0 1 2 8 (tbl_ [1, 1, 5, 23, 221, 1409, 53099, 20833, 3043251]) (tbl_ [1, 1, 1, 3, 21, 105, 3255, 1085, 137795]) := ⟨⟨rfl, rfl, rfl, rfl⟩, by decide +kernel⟩
theorem tab_0_1_3 : mk_T 0 1 3 5 (tbl_ [1, 1, 11, 17, 371, 16477]) (tbl_ [1, 1, 2, 2, 32, 1120]) := ⟨⟨rfl, rfl, rfl, rfl⟩, by decide +kernel⟩
theorem tab_0_2_3 : mk_T 0 2 3 5 (tbl_ [1, 1, 11, 17, 371, 16477]) (tbl_ [1, 1, 2, 2, 32, 1120]) := ⟨⟨rfl, rfl, rfl, rfl⟩, by decide +kernel⟩
theorem tab_0_1_4 : mk_T 0 1 4 5 (tbl_ [1, 1, 19, 89, 3493, 285989]) (tbl_ [1, 1, 3, 9, 261, 16965]) := ⟨⟨rfl, rfl, rfl, rfl⟩, by decide +kernel⟩
theorem tab_0_2_4 : mk_T 0 2 4 5 (tbl_ [1, 1, 5, 23, 221, 1409]) (tbl_ [1, 1, 1, 3, 21, 105]) := ⟨⟨rfl, rfl, rfl, rfl⟩, by decide +kernel⟩
theorem tab_0_3_4 : mk_T 0 3 4 5 (tbl_ [1, 1, 19, 89, 3493, 285989]) (tbl_ [1, 1, 3, 9, 261, 16965]) := ⟨⟨rfl, rfl, rfl, rfl⟩, by decide +kernel⟩
theorem tab_0_1_5 : mk_T 0 1 5 5 (tbl_ [1, 1, 29, 137, 8477, 74239]) (tbl_ [1, 1, 4, 12, 552, 3864]) := ⟨⟨rfl, rfl, rfl, rfl⟩, by decide +kernel⟩
theorem tab_0_2_5 : mk_T 0 2 5 5 (tbl_ [1, 1, 31, 143, 8617, 208423]) (tbl_ [1, 1, 6, 18, 792, 15048]) := ⟨⟨rfl, rfl, rfl, rfl⟩, by decide +kernel⟩
theorem tab_0_3_5 : mk_T 0 3 5 5 (tbl_ [1, 1, 31, 143, 8617, 208423]) (tbl_ [1, 1, 6, 18, 792, 15048]) := ⟨⟨rfl, rfl, rfl, rfl⟩, by decide +kernel⟩
theorem tab_0_4_5 : mk_T 0 4 5 5 (tbl_ [1, 1, 29, 137, 8477, 74239]) (tbl_ [1, 1, 4, 12, 552, 3864]) := ⟨⟨rfl, rfl, rfl, rfl⟩, by decide +kernel⟩
theorem tab_1_1_2 : mk_T 1 1 2 8 (tbl_ [1, 1, 9, 7, 135, 431, 32517, 19151, 5598339]) (tbl_ [1, 1, 2, 1, 14, 35, 2170, 1085, 275590]) := ⟨⟨rfl, rfl, rfl, rfl⟩, by decide +kernel⟩
theorem tab_1_1_3 : mk_T 1 1 3 5 (tbl_ [1, 1, 9, 127, 2791, 124457]) (tbl_ [1, 1, 2, 18, 288, 10080]) := ⟨⟨rfl, rfl, rfl, rfl⟩, by decide +kernel⟩
theorem tab_1_2_3 : mk_T 1 2 3 5 (tbl_ [1, 1, 21, 295, 6451, 8191]) (tbl_ [1, 1, 4, 36, 576, 576]) := ⟨⟨rfl, rfl, rfl, rfl⟩, by decide +kernel⟩
theorem tab_1_1_4 : mk_T 1 1 4 5 (tbl_ [1, 1, 29, 275, 5447, 179527]) (tbl_ [1, 1, 6, 36, 522, 13572]) := ⟨⟨rfl, rfl, rfl, rfl⟩, by decide +kernel⟩
theorem tab_1_2_4 : mk_T 1 2 4 5 (tbl_ [1, 1, 9, 7, 135, 431]) (tbl_ [1, 1, 2, 1, 14, 35]) := ⟨⟨rfl, rfl, rfl, rfl⟩, by decide +kernel⟩
theorem tab_1_3_4 : mk_T 1 3 4 5 (tbl_ [1, 1, 37, 349, 6859, 1123669]) (tbl_ [1, 1, 6, 36, 522, 67860]) := ⟨⟨rfl, rfl, rfl, rfl⟩, by decide +kernel⟩
theorem tab_1_1_5 : mk_T 1 1 5 5 (tbl_ [1, 1, 21, 167, 10443, 65851]) (tbl_ [1, 1, 4, 20, 920, 4600]) := ⟨⟨rfl, rfl, rfl, rfl⟩, by decide +kernel⟩
theorem tab_1_2_5 : mk_T 1 2 5 5 (tbl_ [1, 1, 53, 1241, 75181, 9117023]) (tbl_ [1, 1, 12, 180, 7920, 752400]) := ⟨⟨rfl, rfl, rfl, rfl⟩, by decide +kernel⟩
theorem tab_1_3_5 : mk_T 1 3 5 5 (tbl_ [1, 1, 29, 677, 40897, 4950251]) (tbl_ [1, 1, 6, 90, 3960, 376200]) := ⟨⟨rfl, rfl, rfl, rfl⟩, by decide +kernel⟩
theorem tab_1_4_5 : mk_T 1 4 5 5 (tbl_ [1, 1, 57, 451, 27939, 1223861]) (tbl_ [1, 1, 8, 40, 1840, 64400]) := ⟨⟨rfl, rfl, rfl, rfl⟩, by decide +kernel⟩
