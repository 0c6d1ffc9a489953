/-! the law's text, as a list of letters (law10.py) -/
def lt (k : Nat) : List Nat := (mk_byt.getD k []).map (fun x => x.toNatClampNeg)
def decL (x : Nat) : List Nat := (List.range (sb_dg x)).map (sb_dec x)
def tx (n : Nat) (t : Nat → Nat) (L : List Nat) : Prop := n = L.length ∧ (∀ j, j < n → t j = L.getD j 0) ∧ ∀ x ∈ L, x < 128
theorem tx_cat {n m : Nat} {t s : Nat → Nat} {L M : List Nat} (h1 : tx n t L) (h2 : tx m s M) : tx (n + m) (sb_cat t n s) (L ++ M) := by
  obtain ⟨a1, a2, a3⟩ := h1
  obtain ⟨b1, b2, b3⟩ := h2
  refine ⟨by rw [List.length_append, a1, b1], fun j hj => ?_, fun x hx => (List.mem_append.mp hx).elim (a3 x) (b3 x)⟩
  unfold sb_cat
  rw [List.getD_eq_getElem?_getD]
  split
  · rename_i q
    rw [List.getElem?_append_left (by omega), a2 j q, List.getD_eq_getElem?_getD]
  · rename_i q
    rw [List.getElem?_append_right (by omega), b2 (j - n) (by omega), List.getD_eq_getElem?_getD, a1]
theorem tx_nil : tx 0 (fun _ => 0) [] := ⟨rfl, fun j hj => absurd hj (Nat.not_lt_zero j), fun x hx => absurd hx (List.not_mem_nil)⟩
theorem tx_0 {t : Nat → Nat} : tx 0 t [] := ⟨rfl, fun j hj => absurd hj (Nat.not_lt_zero j), fun x hx => absurd hx (List.not_mem_nil)⟩
theorem lt_len : ∀ k, k < 23 → (lt k).length = mk_len.getD k 0 ∧ mk_len.getD k 0 ≤ 12 := by decide +kernel
theorem lt_get : ∀ k, k < 23 → ∀ j, j < mk_len.getD k 0 → (lt k).getD j 0 = ((mk_byt.getD k []).getD j 0).toNatClampNeg := by decide +kernel
theorem lt_sm : ∀ k, k < 23 → ∀ x ∈ lt k, x < 128 := by decide +kernel
theorem tx_lt {Y : mk_Y} (hPu : mk_Pu Y) {k : Nat} (hk : k < 23) : tx (Y.1 k).2.1 (Y.1 k).2.2 (lt k) := by
  obtain ⟨h1, h2⟩ := hPu.2 k hk
  obtain ⟨g1, g2⟩ := lt_len k hk
  refine ⟨by rw [h1, g1], fun j hj => ?_, lt_sm k hk⟩
  rw [lt_get k hk j (by omega), ← h2 j (by omega), nI_clamp (by have := (hPu.1 k).2 j hj; omega)]
theorem tx_le {Y : mk_Y} (hPu : mk_Pu Y) {k : Nat} (hk : k < 23) : (Y.1 k).2.1 ≤ 12 := by
  rw [(hPu.2 k hk).1]
  exact (lt_len k hk).2
theorem dg_le {x : Nat} (h : x < 1000) : 1 ≤ sb_dg x ∧ sb_dg x ≤ 3 := by
  unfold sb_dg
  split
  · omega
  · split
    · omega
    · first | omega | (split <;> omega)
theorem dec_sm (x j : Nat) : sb_dec x j < 128 := by unfold sb_dec; omega
theorem tx_dec (x : Nat) : tx (sb_dg x) (sb_dec x) (decL x) := by
  unfold decL
  refine ⟨by rw [List.length_map, List.length_range], fun j hj => ?_, fun y hy => ?_⟩
  · rw [List.getD_eq_getElem?_getD, List.getElem?_map, List.getElem?_range hj]; rfl
  · obtain ⟨j, -, rfl⟩ := List.mem_map.mp hy
    exact dec_sm x j
theorem tx_sp {n v : Nat} {t : Nat → Nat} {L : List Nat} (h : tx n t L) (hn : n ≤ 1000) : mk_Sp (v, n, t) := ⟨hn, fun j hj => by
  show t j < 128
  have hj : j < n := hj
  rw [h.2.1 j hj]
  have hl : j < L.length := by rw [← h.1]; exact hj
  rw [List.getD_eq_getElem?_getD, List.getElem?_eq_getElem hl]
  exact h.2.2 _ (List.getElem_mem hl)⟩
/-- one string of the world among the surroundings -/
def xS (X : Nat → Nat) (x : Nat) : Nat → Nat := fun k => if k = 23 then x else X k
def yS (Y : mk_Y) (y : mk_Sd) : mk_Y := (fun k => if k = 23 then y else Y.1 k, Y.2)
theorem mk_Xt1 {X : Nat → Nat} {Y : mk_Y} {cB : ClassId} {wr : va_W} {x v n : Nat} {t : Nat → Nat} {f : Nat → Int32} (h1 : (x, Sum.inr (10, [Value.ref v, .int 0, .int 0, .int 0])) ∈ wr) (h2 : (v, Sum.inl (cB, n, .inl f)) ∈ wr) (h3 : ∀ j, j < n → f j = nI (t j)) (h4 : mk_Sp (v, n, t)) : mk_Xt X (xS X x) Y (yS Y (v, n, t)) cB wr := by
  refine ⟨rfl, fun k hk => ?_, fun k => ?_⟩
  · unfold xS yS
    exact ⟨if_neg (by omega), if_neg (by omega)⟩
  · by_cases e : k = 23
    · subst e
      exact Or.inr ⟨h4, h1, f, h2, h3⟩
    · refine Or.inl ⟨k, ?_, ?_⟩
      · unfold xS; exact if_neg e
      · unfold yS; exact if_neg e
/-- what the script says of the channel -/
def bvN (x : Nat) : Nat → Nat
  | 0 => 0
  | k + 1 => bvN x k * 2 + if x.testBit k then 1 else 0
def zd (Y : mk_Y) : Nat → Nat := fun k =>
  if k = 0 then cv Y 0 % 4 else if k = 1 then 20 + cv Y 1 % 100 else if k = 2 then cv Y 4 % 10 else if k = 3 then 1 + cv Y 5 % 6 else if k = 4 then cv Y 2 % 9 else if k = 5 then cv Y 3 % 5 else if k = 6 then 1 + cv Y 2 % 9 + cv Y 3 % 5 else
  if k < 17 then cv Y (6 + (k - 7)) % 12 else if k < 27 then 1 + cv Y (6 + (k - 17)) / 16 % 12 else if k < 37 then bvN (cv Y (6 + (k - 27)) / 256) (1 + cv Y (6 + (k - 27)) / 16 % 12) else if k < 47 then 4 * (k - 37) + cv Y (15 + (k - 37)) % 4 else cv Y (15 + (k - 47)) / 4 % 3
theorem zd_7 (Y : mk_Y) {i : Nat} (h : i < 10) : zd Y (7 + i) = cv Y (6 + i) % 12 := by
  unfold zd
  rw [if_neg (by omega), if_neg (by omega), if_neg (by omega), if_neg (by omega), if_neg (by omega), if_neg (by omega), if_neg (by omega), if_pos (by omega), Nat.add_sub_cancel_left]
theorem zd_17 (Y : mk_Y) {i : Nat} (h : i < 10) : zd Y (17 + i) = 1 + cv Y (6 + i) / 16 % 12 := by
  unfold zd
  rw [if_neg (by omega), if_neg (by omega), if_neg (by omega), if_neg (by omega), if_neg (by omega), if_neg (by omega), if_neg (by omega), if_neg (by omega), if_pos (by omega), Nat.add_sub_cancel_left]
theorem zd_27 (Y : mk_Y) {i : Nat} (h : i < 10) : zd Y (27 + i) = bvN (cv Y (6 + i) / 256) (zd Y (17 + i)) := by
  rw [zd_17 Y h]
  unfold zd
  rw [if_neg (by omega), if_neg (by omega), if_neg (by omega), if_neg (by omega), if_neg (by omega), if_neg (by omega), if_neg (by omega), if_neg (by omega), if_neg (by omega), if_pos (by omega), Nat.add_sub_cancel_left]
theorem zd_37 (Y : mk_Y) {i : Nat} (h : i < 10) : zd Y (37 + i) = 4 * i + cv Y (15 + i) % 4 := by
  unfold zd
  rw [if_neg (by omega), if_neg (by omega), if_neg (by omega), if_neg (by omega), if_neg (by omega), if_neg (by omega), if_neg (by omega), if_neg (by omega), if_neg (by omega), if_neg (by omega), if_pos (by omega), Nat.add_sub_cancel_left]
theorem zd_47 (Y : mk_Y) (i : Nat) : zd Y (47 + i) = cv Y (15 + i) / 4 % 3 := by
  unfold zd
  rw [if_neg (by omega), if_neg (by omega), if_neg (by omega), if_neg (by omega), if_neg (by omega), if_neg (by omega), if_neg (by omega), if_neg (by omega), if_neg (by omega), if_neg (by omega), if_neg (by omega), Nat.add_sub_cancel_left]
theorem zd_le (Y : mk_Y) : zd Y 0 < 4 ∧ 20 ≤ zd Y 1 ∧ zd Y 1 < 120 ∧ zd Y 2 < 10 ∧ 1 ≤ zd Y 3 ∧ zd Y 3 < 7 ∧ zd Y 4 ≤ 8 ∧ zd Y 5 ≤ 4 := by
  refine ⟨Nat.mod_lt _ (by decide), Nat.le_add_right _ _, ?_, Nat.mod_lt _ (by decide), Nat.le_add_right _ _, ?_, ?_, ?_⟩
  · show 20 + cv Y 1 % 100 < 120; omega
  · show 1 + cv Y 5 % 6 < 7; omega
  · show cv Y 2 % 9 ≤ 8; omega
  · show cv Y 3 % 5 ≤ 4; omega
def bt (Y : mk_Y) (i k : Nat) : Nat := if (cv Y (6 + i) / 256).testBit k then 1 else 0
def bLk (Y : mk_Y) (i : Nat) : Nat → List Nat
  | 0 => lt 18
  | k + 1 => bLk Y i k ++ decL (bt Y i k)
def zH (Y : mk_Y) : List Nat := lt 13 ++ decL (zd Y 0) ++ lt 14 ++ decL (zd Y 1) ++ lt 15 ++ decL (zd Y 2) ++ lt 16 ++ decL (zd Y 3) ++ lt 17
def zTs (Y : mk_Y) : Nat → List Nat
  | 0 => zH Y
  | i + 1 => zTs Y i ++ lt 19 ++ decL (zd Y (7 + i)) ++ lt 20 ++ bLk Y i (zd Y (17 + i)) ++ lt 17
def zTn (Y : mk_Y) : Nat → List Nat
  | 0 => zTs Y (zd Y 4)
  | k + 1 => zTn Y k ++ lt 21 ++ decL (zd Y (37 + k)) ++ lt 22 ++ lt (10 + zd Y (47 + k)) ++ lt 17
theorem decL_len (x : Nat) : (decL x).length = sb_dg x := by unfold decL; rw [List.length_map, List.length_range]
theorem bt_le (Y : mk_Y) (i k : Nat) : bt Y i k ≤ 1 := by unfold bt; split <;> omega
theorem dg_bt (Y : mk_Y) (i k : Nat) : sb_dg (bt Y i k) = 1 := by unfold sb_dg; rw [if_pos (by have := bt_le Y i k; omega)]
theorem bLk_len (Y : mk_Y) (i : Nat) : ∀ k, (bLk Y i k).length = k
  | 0 => rfl
  | k + 1 => by rw [bLk, List.length_append, bLk_len Y i k, decL_len, dg_bt]
theorem zH_len (Y : mk_Y) : (zH Y).length ≤ 60 := by
  obtain ⟨h0, -, h1, h2, -, h3, -, -⟩ := zd_le Y
  have e0 := dg_le (x := zd Y 0) (by omega)
  have e1 := dg_le (x := zd Y 1) (by omega)
  have e2 := dg_le (x := zd Y 2) (by omega)
  have e3 := dg_le (x := zd Y 3) (by omega)
  have l3 := lt_len 13 (by decide)
  have l4 := lt_len 14 (by decide)
  have l5 := lt_len 15 (by decide)
  have l6 := lt_len 16 (by decide)
  have l7 := lt_len 17 (by decide)
  have r3 : mk_len.getD 13 0 = 12 := rfl
  have r4 : mk_len.getD 14 0 = 7 := rfl
  have r5 : mk_len.getD 15 0 = 7 := rfl
  have r6 : mk_len.getD 16 0 = 8 := rfl
  have r7 : mk_len.getD 17 0 = 1 := rfl
  unfold zH
  simp only [List.length_append, decL_len]
  omega
theorem zd_7l (Y : mk_Y) {i : Nat} (h : i < 10) : zd Y (7 + i) < 12 ∧ 1 ≤ zd Y (17 + i) ∧ zd Y (17 + i) ≤ 12 := by
  rw [zd_7 Y h, zd_17 Y h]
  omega
theorem zd_37l (Y : mk_Y) {i : Nat} (h : i < 10) : zd Y (37 + i) < 40 ∧ zd Y (47 + i) ≤ 2 := by
  rw [zd_37 Y h, zd_47 Y i]
  omega
theorem zTs_len (Y : mk_Y) : ∀ i, i ≤ 8 → (zTs Y i).length ≤ 60 + 40 * i
  | 0, _ => zH_len Y
  | i + 1, h => by
    have ih := zTs_len Y i (by omega)
    obtain ⟨h1, -, h2⟩ := zd_7l Y (i := i) (by omega)
    have e0 := dg_le (x := zd Y (7 + i)) (by omega)
    have l3 := lt_len 19 (by decide)
    have l4 := lt_len 20 (by decide)
    have l7 := lt_len 17 (by decide)
    have r3 : mk_len.getD 19 0 = 10 := rfl
    have r4 : mk_len.getD 20 0 = 6 := rfl
    have r7 : mk_len.getD 17 0 = 1 := rfl
    rw [zTs]
    simp only [List.length_append, decL_len, bLk_len]
    omega
theorem zTn_len (Y : mk_Y) : ∀ k, k ≤ 4 → (zTn Y k).length ≤ 380 + 20 * k
  | 0, _ => by
    have h4 := (zd_le Y).2.2.2.2.2.2.1
    have := zTs_len Y (zd Y 4) h4
    rw [zTn]
    omega
  | k + 1, h => by
    have ih := zTn_len Y k (by omega)
    obtain ⟨h1, h2⟩ := zd_37l Y (i := k) (by omega)
    have e0 : sb_dg (zd Y (37 + k)) ≤ 2 := by unfold sb_dg; split; omega; rw [if_pos (by omega)]; omega
    have l3 := lt_len 21 (by decide)
    have l4 := lt_len 22 (by decide)
    have l7 := lt_len 17 (by decide)
    have r3 : mk_len.getD 21 0 = 9 := rfl
    have r4 : mk_len.getD 22 0 = 4 := rfl
    have r7 : mk_len.getD 17 0 = 1 := rfl
    have l5 : (lt (10 + zd Y (47 + k))).length ≤ 4 := by
      rcases (show zd Y (47 + k) = 0 ∨ zd Y (47 + k) = 1 ∨ zd Y (47 + k) = 2 by omega) with e | e | e <;> rw [e] <;> decide
    rw [zTn]
    simp only [List.length_append, decL_len]
    omega
