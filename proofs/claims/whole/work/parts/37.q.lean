/-! pure: a line with its sign; all lines -/
theorem mk_BD_6 {d : Nat → Nat} {c : Nat} (hB : mk_BD d) (h1 : d 1 ≠ 0) (hc : c ≤ 501) (h0 : c ≠ 0) : mk_BD (ud d 6 c) := by
  obtain ⟨b0, b1', b2', b3', b4', b5, b6, b7, b8, b9⟩ := hB
  refine ⟨by rw [ud_n (by omega)]; exact b0, by rw [ud_n (by omega)]; exact b1', by rw [ud_n (by omega)]; exact b2', by rw [ud_n (by omega)]; exact b3', by rw [ud_n (by omega)]; exact b4', by rw [ud_n (by omega)]; exact b5, by rw [ud_s]; exact hc, ?_, ?_, ?_⟩
  · rw [ud_s, ud_n (by omega)]
    exact ⟨fun q => absurd q h0, fun q => absurd q h1⟩
  · intro i hi
    rw [ud_n (by omega)] at hi
    rw [ud_n (by omega), ud_n (j := 17 + i) (by omega), ud_n (j := 27 + i) (by omega)]; exact b8 i hi
  · intro i hi
    rw [ud_n (by omega)] at hi
    rw [ud_n (by omega), ud_n (j := 47 + i) (by omega)]; exact b9 i hi
theorem mk_BD_C {d : Nat → Nat} {l s k w : Nat} (h4 : d 4 = 0) (h5 : d 5 = 0) (hl : l ≤ 3) (hs1 : 1 ≤ s) (hs : s ≤ 200) (hk : k ≤ 9) (hw : w ≤ 20) : mk_BD (ud (dC d l s k w) 6 1) := by
  unfold dC
  refine ⟨?_, ?_, ?_, ?_, ?_, ?_, ?_, ?_, ?_, ?_⟩
  · rw [ud_n (by omega), ud_n (by omega), ud_n (by omega), ud_n (by omega), ud_s]; exact hl
  · rw [ud_n (by omega), ud_n (by omega), ud_n (by omega), ud_s]; exact hs
  · rw [ud_n (by omega), ud_n (by omega), ud_s]; exact hk
  · rw [ud_n (by omega), ud_s]; exact hw
  · rw [ud_n (by omega), ud_n (by omega), ud_n (by omega), ud_n (by omega), ud_n (by omega)]; omega
  · rw [ud_n (by omega), ud_n (by omega), ud_n (by omega), ud_n (by omega), ud_n (by omega)]; omega
  · rw [ud_s]; omega
  · rw [ud_s, ud_n (by omega), ud_n (by omega), ud_n (by omega), ud_s]; omega
  · intro i hi
    rw [ud_n (by omega), ud_n (by omega), ud_n (by omega), ud_n (by omega), ud_n (by omega)] at hi
    omega
  · intro i hi
    rw [ud_n (by omega), ud_n (by omega), ud_n (by omega), ud_n (by omega), ud_n (by omega)] at hi
    omega
/-- after its sign -/
def LSg (tl q : Nat) (B : Nat → Int32) (x : Nat → Nat → Int32) (G : Option (Int32 × (Nat → Nat → Int32) × (Nat → Nat → Int32))) (F : Option (Nat → Nat → Int32)) (d' : Nat → Nat) : Prop := ∃ u D2 z q2, G = some (1, u, D2) ∧ (∀ k57 : (Nat → Nat → Int32) → Option (Int32 × (Nat → Nat → Int32)), b1 F (fun y => f_X_channel_125 k57 y) = k57 z) ∧ Rd B tl q2 u z ∧ mk_MP (z 0) (ud d' 6 (d' 6 + 1)) ∧ mk_CP D2 d' ∧ Sm x z ∧ q < q2 ∧ Hi x z
def LNg (x : Nat → Nat → Int32) (G : Option (Int32 × (Nat → Nat → Int32) × (Nat → Nat → Int32))) (F : Option (Nat → Nat → Int32)) : Prop := ∃ u D2 z, G = some (0, u, D2) ∧ (∀ k57 : (Nat → Nat → Int32) → Option (Int32 × (Nat → Nat → Int32)), b1 F (fun y => f_X_channel_125 k57 y) = k57 z) ∧ Bd u z ∧ Sm x z ∧ Hi x z
theorem LN_of {x : Nat → Nat → Int32} {G : Option (Int32 × (Nat → Nat → Int32) × (Nat → Nat → Int32))} {F : Option (Nat → Nat → Int32)} (h : Lno x G F) : LNg x G F := by
  obtain ⟨u, D2, y, rfl, rfl, h3, h4, h5⟩ := h
  refine ⟨u, D2, upR 0 (upd (y 0) 6 ((y 0) 6 + 1)) y, rfl, fun k57 => ?_, h3, Sm_t h4 (Sm_0 _ _), Hi_t h5 (hi_u (fun _ _ => rfl) (by omega))⟩
  unfold f_X_channel_125 f_X_channel_141 f_X_channel_146
  rw [b1_k, if_neg (show ¬ y 12 0 = 0 from by rw [h3.1]; exact one0), X_pB h3.1, b1_k]
theorem LS_of {T x : Nat → Nat → Int32} {tl q : Nat} {G : Option (Int32 × (Nat → Nat → Int32) × (Nat → Nat → Int32))} {F : Option (Nat → Nat → Int32)} {d d' : Nat → Nat} (ht : tl ≤ 500) (h1 : T 1 0 = nI tl) (hM : mk_MP (x 0) d) (h57 : ∀ k, 57 ≤ k → d' k = d k) (h : Lok T tl q x G F d') : LSg tl q (T 0) x G F d' ∨ LNg x G F := by
  obtain ⟨r2, D2, y, q2, rfl, rfl, ⟨hq, y4, yX, yT, y12, yF⟩, h4, h5, h6, h7⟩ := h
  obtain ⟨cT, cF⟩ := L_readSign ht h1 hq y4
  have hK := tKb_le (T 0) tl (tB (T 0) tl q2)
  have n2 := nx_le (B := T 0) hq
  by_cases z : tKb (T 0) tl (tB (T 0) tl q2) = 3
  · left
    obtain ⟨u, u1, u2, u3, u4⟩ := cT z
    obtain ⟨m, m1, m2, m3⟩ := X_pT ht n2.2 yT y12 yX.2.2.1
    have m0 : m 0 = y 0 := m3 0 (by decide) (by decide) (by decide) (by decide)
    refine ⟨u, D2, upR 0 (upd (m 0) 6 ((m 0) 6 + 1)) m, nx (T 0) tl q2, by rw [u1, b2_k, gZ1], fun k57 => ?_, ⟨n2.2, u2, m2, ?_, ?_, ?_⟩, ?_, h5, Sm_t h6 (Sm_t (Sm_n m3) (Sm_0 _ _)), by omega, ?_⟩
    · unfold f_X_channel_125 f_X_channel_141 f_X_channel_146
      rw [b1_k, if_pos y12, if_pos (show y 10 0 = 3 from by rw [yX.1, z]; rfl), m1, b1_k]
    · have mT := TP_n yT (Sm_n m3)
      exact TP_of mT rfl rfl
    · show m 12 0 = 0
      rw [m3 12 (by decide) (by decide) (by decide) (by decide)]; exact y12
    · have mF : FR u m := FR_n yF u3 u4 m3
      exact mF
    · rw [upR_s, m0, h4 6, pu_one]
      exact mk_MP_u h4 6 (d' 6 + 1)
    · refine Hi_M hM (d' := ud d' 6 (d' 6 + 1)) ?_ (fun k hk => by rw [ud_n (by omega), h57 k hk])
      rw [upR_s, m0, h4 6, pu_one]
      exact mk_MP_u h4 6 (d' 6 + 1)
  · right
    obtain ⟨u, u1, u2, u3⟩ := cF z
    have hb : Bd u (bdX 1 y) := Bd_of u2 u3 yX.2.1
    refine ⟨u, D2, upR 0 (upd (bdX 1 y 0) 6 ((bdX 1 y 0) 6 + 1)) (bdX 1 y), by rw [u1, b2_k, gZ0], fun k57 => ?_, hb, Sm_t h6 (Sm_t (Sm_b _ _) (Sm_0 _ _)), Hi_t (Hi_M hM h4 h57) (Hi_t (Hi_b y 1) (hi_u (fun _ _ => rfl) (by omega)))⟩
    unfold f_X_channel_125 f_X_channel_146
    rw [b1_k, if_pos y12, if_neg (show ¬ y 10 0 = 3 from by rw [yX.1]; exact eq_f (b := 3) z (by omega) (by omega)), X_pF y12, b1_k]
/-- what a draft keeps -/
def Zd (d : Nat → Nat) : Prop := (∀ k, d 4 ≤ k → k < 10 → d (27 + k) = 0) ∧ (d 6 = 0 → d 4 = 0 ∧ d 5 = 0)
theorem q_wrap (G : Option (Int32 × (Nat → Nat → Int32) × (Nat → Nat → Int32))) {F : Option (Nat → Nat → Int32)} {x : Nat → Nat → Int32} {tl q : Nat} {B : Nat → Int32} {d' : Nat → Nat} (h : LSg tl q B x G F d' ∨ LNg x G F) : b3 G (fun r a b => gZ r (some (r, a, b))) = G := by
  rcases h with ⟨u, D2, z, q2, rfl, _⟩ | ⟨u, D2, z, rfl, _⟩
  · rw [b3_k, gZ1]
  · rw [b3_k, gZ0]
theorem q_wrapN (G : Option (Int32 × (Nat → Nat → Int32) × (Nat → Nat → Int32))) {F : Option (Nat → Nat → Int32)} {x : Nat → Nat → Int32} (h : LNg x G F) : b3 G (fun r a b => gZ r (some (r, a, b))) = G := by
  obtain ⟨u, D2, z, rfl, _⟩ := h
  rw [b3_k, gZ0]
theorem J_line {T r x D : Nat → Nat → Int32} {tl p : Nat} {d : Nat → Nat} (ht : tl ≤ 500) (h1 : T 1 0 = nI tl) (h : At (T 0) tl p r x) (hK : tKb (T 0) tl (tB (T 0) tl p) ≠ 0) (hB : mk_BD d) (hZ : Zd d) (h6 : d 6 ≤ 500) (hM : mk_MP (x 0) d) (hC : mk_CP D d) (n : Nat) : ∃ F, f_X_channel_57 (n + 1) x = b1 F (fun y => f_X_channel_125 (f_X_channel_57 n) y) ∧ ((∃ d', mk_BD (ud d' 6 (d' 6 + 1)) ∧ Zd (ud d' 6 (d' 6 + 1)) ∧ d' 6 = d 6 ∧ LSg tl p (T 0) x (f_R_readLine r T D) F d') ∨ LNg x (f_R_readLine r T D) F) := by
  have h' := h
  obtain ⟨hp, hR, hX, hT, h12, hF⟩ := h'
  have hKle := tKb_le (T 0) tl (tB (T 0) tl p)
  have hd4 : d 4 ≤ 10 := hB.2.2.2.2.1
  have hd5 : d 5 ≤ 10 := hB.2.2.2.2.2.1
  have h61 := hB.2.2.2.2.2.2.2.1
  have c4 := hC.2.2.2.2.1
  unfold f_R_readLine
  rw [f_X_channel_57, if_pos h12, if_neg (show ¬ x 10 0 = 0 from by rw [hX.1]; exact eq_f0 hK (by omega)), hM 6, L_wR ht hp (by omega) hR, b1_k, c4]
  have noB : Lno x (b2 (f_R_refuse r 1) (fun a b => gZ a (some (a, b, D)))) (f_X_faults x 1) := by
    unfold f_R_refuse
    rw [b2_k, gZ0, X_fG h12]
    exact ⟨_, D, _, rfl, rfl, Bd_of rfl hR.2.1 hX.2.1, Sm_b _ _, Hi_b _ _⟩
  by_cases z : d 6 = 0
  · rw [z, if_pos (show nI 0 = 0 from rfl)]
    refine ⟨f_X_readsChannel x, rfl, ?_⟩
    have hz := hZ.2 z
    have n2 := nx_le (B := T 0) hp
    have hlt := nx_lt hp hK
    unfold f_X_readsChannel
    rw [L_wX ht hp (by omega) hT hX, b1_k]
    cases w0 : isW (T 0) tl p 0
    · right
      unfold f_R_readLine_56 f_R_readLine_80 f_R_refuse
      rw [iteF, if_pos (show nI 0 ≤ 0 from by decide), c4, z, if_pos (show nI 0 ≤ 0 from by decide), b2_k, gZ0, show (if false = true then (1 : Int32) else 0) = 0 from rfl, X_pF h12, b1_k]
      obtain ⟨g, e, eg⟩ := gC_bad (x := bdX 1 x) rfl
      have e' : b2 (f_X_named (bdX 1 x) 1 0 3) (fun r5 uX_6 => b2 (f_X_named (upR 0 (upd (uX_6 0) 0 r5) uX_6) 2 1 200) (fun r8 uX_9 => b2 (f_X_named (upR 0 (upd (uX_9 0) 1 r8) uX_9) 3 0 9) (fun r11 uX_12 => b2 (f_X_named (upR 0 (upd (uX_12 0) 2 r11) uX_12) 4 1 20) (fun r14 uX_15 => some (upR 0 (upd (uX_15 0) 3 r14) uX_15))))) = some (upR 0 g (bdX 1 x)) := e
      rw [e']
      have hb : Bd (upF 7 (r 3 0) (upF 6 1 r)) (bdX 1 x) := Bd_of rfl hR.2.1 hX.2.1
      exact LN_of ⟨_, D, _, rfl, rfl, hb, Sm_t (Sm_b _ _) (Sm_0 _ _), Hi_t (Hi_b _ _) eg⟩
    · obtain ⟨y, y1, y2, y3⟩ := X_pT ht n2.2 hT h12 hX.2.2.1
      have y0 : y 0 = x 0 := y3 0 (by decide) (by decide) (by decide) (by decide)
      have R1 : Rd (T 0) tl (nx (T 0) tl p) r y := ⟨n2.2, hR.2.2, y2, TP_n hT (Sm_n y3), by rw [y3 12 (by decide) (by decide) (by decide) (by decide)]; exact h12, FR_n hF rfl rfl y3⟩
      rw [iteT, if_pos (show nI 0 = 0 from rfl), show (if true = true then (1 : Int32) else 0) = 1 from rfl, y1, b1_k]
      have eC : ∀ y, b2 (f_X_named y 1 0 3) (fun r5 uX_6 => b2 (f_X_named (upR 0 (upd (uX_6 0) 0 r5) uX_6) 2 1 200) (fun r8 uX_9 => b2 (f_X_named (upR 0 (upd (uX_9 0) 1 r8) uX_9) 3 0 9) (fun r11 uX_12 => b2 (f_X_named (upR 0 (upd (uX_12 0) 2 r11) uX_12) 4 1 20) (fun r14 uX_15 => some (upR 0 (upd (uX_15 0) 3 r14) uX_15))))) = gC y := fun _ => rfl
      rw [eC]
      rcases J_chan ht h1 R1 (by rw [y0]; exact hM) hC with ⟨l, s, k, w, v1, v2, v3, v4, v5, v6, hL⟩ | hL
      · have d57 : ∀ k', 57 ≤ k' → dC d l s k w k' = d k' := fun k' hk => by
          unfold dC
          rw [ud_n (by omega), ud_n (by omega), ud_n (by omega), ud_n (by omega)]
        have dC6 : dC d l s k w 6 = d 6 := by
          unfold dC
          rw [ud_n (by omega), ud_n (by omega), ud_n (by omega), ud_n (by omega)]
        have hL' : Lok T tl p x (f_R_readChannel r T D) (gC y) (dC d l s k w) := by
          obtain ⟨r2, D2, y', q2, g1, g2, g3, g4, g5, g6, g7⟩ := hL
          exact ⟨r2, D2, y', q2, g1, g2, g3, g4, g5, Sm_t (Sm_n y3) g6, by omega⟩
        have LL := LS_of ht h1 hM d57 hL'
        rw [q_wrap _ LL]
        rcases LL with LL | LL
        · left
          refine ⟨dC d l s k w, by rw [dC6, z]; exact mk_BD_C hz.1 hz.2 v1 v2 v3 v4 v6, ⟨fun k' a b => ?_, fun q => ?_⟩, dC6.trans z, LL⟩
          · unfold dC at a ⊢
            rw [ud_n (by omega), ud_n (by omega), ud_n (by omega), ud_n (by omega), ud_n (by omega)] at a ⊢
            exact hZ.1 k' a b
          · rw [ud_s] at q; omega
        · right; exact LL
      · right
        have hL' : Lno x (f_R_readChannel r T D) (gC y) := by
          obtain ⟨r2, D2, y', g1, g2, g3, g4, g5⟩ := hL
          exact ⟨r2, D2, y', g1, g2, g3, Sm_t (Sm_n y3) g4, Hi_t (Hi_e y0) g5⟩
        have LL := LN_of hL'
        rw [q_wrapN _ LL]
        exact LL
  · have hd1 : d 1 ≠ 0 := fun q => z (h61.mpr q)
    rw [if_neg (eq_f0 z (by omega)), L_wX ht hp (by omega) hT hX, b1_k]
    cases w0 : isW (T 0) tl p 0
    · rw [iteF, if_neg (le_f0 (show 0 < d 6 by omega) (by omega)), L_wR ht hp (by omega) hR, b1_k]
      cases w5 : isW (T 0) tl p 5
      · unfold f_R_readLine_56 f_R_readLine_80
        rw [iteF, iteF, c4, if_neg (le_f0 (show 0 < d 6 by omega) (by omega)), L_wR ht hp (by omega) hR, b1_k, L_wX ht hp (by omega) hT hX, b1_k]
        cases w8 : isW (T 0) tl p 8
        · rw [iteF, iteF]
          exact ⟨f_X_faults x 1, rfl, Or.inr (LN_of noB)⟩
        · rw [iteT, iteT]
          refine ⟨f_X_readsNoise x, rfl, ?_⟩
          rcases J_noise ht h1 h hK hB hM hC with ⟨t, k, v1, v2, v3, hL⟩ | hL
          · have LL := LS_of ht h1 hM (fun k' hk => dN_o (by omega) (by omega) (by omega)) hL
            have dN6 : dN d t k 6 = d 6 := dN_o (by omega) (by omega) (by omega)
            have dN1 : dN d t k 1 = d 1 := dN_o (by omega) (by omega) (by omega)
            rw [q_wrap _ LL]
            rcases LL with LL | LL
            · left
              refine ⟨dN d t k, mk_BD_6 (mk_BD_N hB v3 v1 v2) (by rw [dN1]; exact hd1) (by omega) (by omega), ⟨fun k' a b => ?_, fun q => ?_⟩, dN6, LL⟩
              · rw [ud_n (by omega), dN_o (by omega) (by omega) (by omega)] at a
                rw [ud_n (by omega), dN_o (by omega) (by omega) (by omega)]
                exact hZ.1 k' a b
              · rw [ud_s] at q; omega
            · right; exact LL
          · right
            have LL := LN_of hL
            rw [q_wrapN _ LL]
            exact LL
      · rw [iteT, iteT]
        refine ⟨f_X_readsSender x, rfl, ?_⟩
        rcases J_send ht h1 h hK hB hM hC (fun q => hZ.1 (d 4) (Nat.le_refl _) q) with ⟨t, n, b, v1, v2, v3, v4, v5, hL⟩ | hL
        · have LL := LS_of ht h1 hM (fun k' hk => dS_o (by omega) (by omega) (by omega) (by omega)) hL
          have dS6 : dS d t n b 6 = d 6 := dS_o (by omega) (by omega) (by omega) (by omega)
          have dS1 : dS d t n b 1 = d 1 := dS_o (by omega) (by omega) (by omega) (by omega)
          rw [q_wrap _ LL]
          rcases LL with LL | LL
          · left
            refine ⟨dS d t n b, mk_BD_6 (mk_BD_S hB v5 v1 v2 v3 v4) (by rw [dS1]; exact hd1) (by omega) (by omega), ⟨fun k' a b => ?_, fun q => ?_⟩, dS6, LL⟩
            · rw [ud_n (by omega), dS_4] at a
              rw [ud_n (by omega), dS_o (by omega) (by omega) (by omega) (by omega)]
              exact hZ.1 k' (by omega) b
            · rw [ud_s] at q; omega
          · right; exact LL
        · right
          have LL := LN_of hL
          rw [q_wrapN _ LL]
          exact LL
    · rw [iteT, if_neg (eq_f0 z (by omega)), isW_ne w0 (show mk_len.getD 0 0 ≠ mk_len.getD 5 0 by decide), iteF, L_wX ht hp (by omega) hT hX, b1_k, isW_ne w0 (show mk_len.getD 0 0 ≠ mk_len.getD 8 0 by decide), iteF]
      exact ⟨f_X_faults x 1, rfl, Or.inr (LN_of noB)⟩
noncomputable def eX (y : Nat → Nat → Int32) : Nat → Nat → Int32 := upF 7 (y 14 0) (upF 6 (y 13 0) (upF 5 0 y))
theorem J_loop {T : Nat → Nat → Int32} {tl : Nat} (ht : tl ≤ 500) (h1 : T 1 0 = nI tl) : ∀ k n n' i p (r x D : Nat → Nat → Int32) (d : Nat → Nat), tl ≤ p + k → k < n → k < n' → i ≤ p → d 6 ≤ p → Rd (T 0) tl p r x → mk_BD d → Zd d → mk_MP (x 0) d → mk_CP D d → (∃ r' D' d' y, f_R_read_24 T n (nI i) r D = some (1, r', D') ∧ f_X_channel_57 n' x = some (nI (d' 6), upF 3 0 (eX y)) ∧ mk_BD d' ∧ Zd d' ∧ mk_MP (y 0) d' ∧ mk_CP D' d' ∧ FR r' y ∧ Sm x y) ∨ (∃ r' D' y, f_R_read_24 T n (nI i) r D = some (0, r', D') ∧ f_X_channel_57 n' x = f_X_channel_193 600 0 (eX y) ∧ FR r' y ∧ Sm x y ∧ Hi x y) := by
  intro k
  induction k with
  | zero =>
    intro n n' i p r x D d hk hn hn' hi h6 hR hB hZ hM hC
    obtain ⟨n, rfl, _⟩ := q_fu hn
    obtain ⟨n', rfl, _⟩ := q_fu hn'
    obtain ⟨hp, r4, xX, xT, x12, hF⟩ := hR
    obtain ⟨v, g1, g2, g5⟩ := L_step ht h1 hp r4
    have v6 : v 6 = r 6 := g5 6 (by decide) (by decide) (by decide)
    have v7 : v 7 = r 7 := g5 7 (by decide) (by decide) (by decide)
    have hb := tB_le (B := T 0) hp
    have eK : tKb (T 0) tl (tB (T 0) tl p) = 0 := by unfold tKb; rw [if_neg (by omega)]
    left
    rw [f_R_read_24, f_X_channel_57, if_neg (show ¬ (500 : Int32) < nI i from lt_f (a := 500) (by omega) (by omega)), g1, b1_k, if_pos (show v 2 0 = 0 from by rw [g2.1, eK]; rfl), if_pos x12, if_pos (show x 10 0 = 0 from by rw [xX.1, eK]; rfl)]
    unfold f_X_channel_163
    rw [if_pos x12, hM 6]
    exact ⟨v, D, d, x, rfl, rfl, hB, hZ, hM, hC, ⟨by rw [v6]; exact hF.1, by rw [v7]; exact hF.2⟩, Sm_r x⟩
  | succ k ih =>
    intro n n' i p r x D d hk hn hn' hi h6 hR hB hZ hM hC
    obtain ⟨n, rfl, _⟩ := q_fu hn
    obtain ⟨n', rfl, _⟩ := q_fu hn'
    obtain ⟨hp, r4, xX, xT, x12, hF⟩ := hR
    obtain ⟨v, g1, g2, g5⟩ := L_step ht h1 hp r4
    have v6 : v 6 = r 6 := g5 6 (by decide) (by decide) (by decide)
    have v7 : v 7 = r 7 := g5 7 (by decide) (by decide) (by decide)
    have hFv : FR v x := ⟨by rw [v6]; exact hF.1, by rw [v7]; exact hF.2⟩
    have hKle := tKb_le (T 0) tl (tB (T 0) tl p)
    rw [f_R_read_24, if_neg (show ¬ (500 : Int32) < nI i from lt_f (a := 500) (by omega) (by omega)), g1, b1_k]
    by_cases eK : tKb (T 0) tl (tB (T 0) tl p) = 0
    · left
      rw [f_X_channel_57, if_pos (show v 2 0 = 0 from by rw [g2.1, eK]; rfl), if_pos x12, if_pos (show x 10 0 = 0 from by rw [xX.1, eK]; rfl)]
      unfold f_X_channel_163
      rw [if_pos x12, hM 6]
      exact ⟨v, D, d, x, rfl, rfl, hB, hZ, hM, hC, hFv, Sm_r x⟩
    · obtain ⟨F, f1, f2⟩ := J_line ht h1 ⟨hp, g2, xX, xT, x12, hFv⟩ eK hB hZ (by omega) hM hC n'
      rw [f1, if_neg (show ¬ v 2 0 = 0 from by rw [g2.1]; exact eq_f0 eK (by omega))]
      rcases f2 with ⟨d', e1, e2, e3, u, D2, z, q2, e4, e5, e6, e7, e8, e9, e10, e11⟩ | ⟨u, D2, z, e4, e5, e6, e7, e8⟩
      · rw [e4, b3_k, if_neg one0, e5, e8.2.2.2.2.1, pu_one, pu_one]
        rcases ih n n' (i + 1) q2 u z (upF 4 (nI (d' 6 + 1)) D2) (ud d' 6 (d' 6 + 1)) (by omega) (by omega) (by omega) (by omega) (by rw [ud_s]; omega) e6 e1 e2 e7 (mk_CP_6 e8 _) with ⟨r', D', d2, y, a1, a2, a3, a4, a5, a6, a7, a8⟩ | ⟨r', D', y, a1, a2, a3, a4, a5⟩
        · left
          exact ⟨r', D', d2, y, a1, a2, a3, a4, a5, a6, a7, Sm_t e9 a8⟩
        · right
          exact ⟨r', D', y, a1, a2, a3, Sm_t e9 a4, Hi_t e11 a5⟩
      · right
        obtain ⟨n', rfl, _⟩ := q_fu (show 0 < n' by omega)
        rw [e4, b3_k, if_pos rfl, e5, f_X_channel_57, if_neg (show ¬ z 12 0 = 0 from by rw [e6.1]; exact one0)]
        unfold f_X_channel_163
        rw [if_neg (show ¬ z 12 0 = 0 from by rw [e6.1]; exact one0)]
        exact ⟨u, D2, z, rfl, rfl, e6.2, e7, e8⟩
