/-! pure: the lines -/
theorem mk_CP_1 {d : Nat → Nat} {u : Nat → Nat → Int32} (hC : mk_CP u d) (l : Nat) : mk_CP (upF 1 (nI l) u) (ud d 1 l) := by
  obtain ⟨c0, c1, c2, c3, c4, c5, c6, c7, c8⟩ := hC
  refine ⟨by rw [ud_n (by omega)]; exact c0, by rw [ud_s]; rfl, by rw [ud_n (by omega)]; exact c2, by rw [ud_n (by omega)]; exact c3, by rw [ud_n (by omega)]; exact c4, by rw [ud_n (by omega)]; exact c5, by rw [ud_n (by omega)]; exact c6, ?_, ?_⟩
  · intro i hi
    rw [ud_n (by omega)] at hi
    rw [ud_n (by omega), ud_n (j := 17 + i) (by omega), ud_n (j := 27 + i) (by omega)]; exact c7 i hi
  · intro i hi
    rw [ud_n (by omega)] at hi
    rw [ud_n (by omega), ud_n (j := 47 + i) (by omega)]; exact c8 i hi
theorem mk_CP_2 {d : Nat → Nat} {u : Nat → Nat → Int32} (hC : mk_CP u d) (l : Nat) : mk_CP (upF 2 (nI l) u) (ud d 2 l) := by
  obtain ⟨c0, c1, c2, c3, c4, c5, c6, c7, c8⟩ := hC
  refine ⟨by rw [ud_n (by omega)]; exact c0, by rw [ud_n (by omega)]; exact c1, by rw [ud_s]; rfl, by rw [ud_n (by omega)]; exact c3, by rw [ud_n (by omega)]; exact c4, by rw [ud_n (by omega)]; exact c5, by rw [ud_n (by omega)]; exact c6, ?_, ?_⟩
  · intro i hi
    rw [ud_n (by omega)] at hi
    rw [ud_n (by omega), ud_n (j := 17 + i) (by omega), ud_n (j := 27 + i) (by omega)]; exact c7 i hi
  · intro i hi
    rw [ud_n (by omega)] at hi
    rw [ud_n (by omega), ud_n (j := 47 + i) (by omega)]; exact c8 i hi
theorem mk_CP_3 {d : Nat → Nat} {u : Nat → Nat → Int32} (hC : mk_CP u d) (l : Nat) : mk_CP (upF 3 (nI l) u) (ud d 3 l) := by
  obtain ⟨c0, c1, c2, c3, c4, c5, c6, c7, c8⟩ := hC
  refine ⟨by rw [ud_n (by omega)]; exact c0, by rw [ud_n (by omega)]; exact c1, by rw [ud_n (by omega)]; exact c2, by rw [ud_s]; rfl, by rw [ud_n (by omega)]; exact c4, by rw [ud_n (by omega)]; exact c5, by rw [ud_n (by omega)]; exact c6, ?_, ?_⟩
  · intro i hi
    rw [ud_n (by omega)] at hi
    rw [ud_n (by omega), ud_n (j := 17 + i) (by omega), ud_n (j := 27 + i) (by omega)]; exact c7 i hi
  · intro i hi
    rw [ud_n (by omega)] at hi
    rw [ud_n (by omega), ud_n (j := 47 + i) (by omega)]; exact c8 i hi
theorem mk_CP_6 {d : Nat → Nat} {u : Nat → Nat → Int32} (hC : mk_CP u d) (l : Nat) : mk_CP (upF 4 (nI l) u) (ud d 6 l) := by
  obtain ⟨c0, c1, c2, c3, c4, c5, c6, c7, c8⟩ := hC
  refine ⟨by rw [ud_n (by omega)]; exact c0, by rw [ud_n (by omega)]; exact c1, by rw [ud_n (by omega)]; exact c2, by rw [ud_n (by omega)]; exact c3, by rw [ud_s]; rfl, by rw [ud_n (by omega)]; exact c5, by rw [ud_n (by omega)]; exact c6, ?_, ?_⟩
  · intro i hi
    rw [ud_n (by omega)] at hi
    rw [ud_n (by omega), ud_n (j := 17 + i) (by omega), ud_n (j := 27 + i) (by omega)]; exact c7 i hi
  · intro i hi
    rw [ud_n (by omega)] at hi
    rw [ud_n (by omega), ud_n (j := 47 + i) (by omega)]; exact c8 i hi
/-- above the cells that mean something nothing changes -/
def Hi (x y : Nat → Nat → Int32) : Prop := ∀ k, 57 ≤ k → y 0 k = x 0 k
theorem Hi_t {x y z : Nat → Nat → Int32} (h : Hi x y) (g : Hi y z) : Hi x z := fun k hk => by rw [g k hk, h k hk]
theorem Hi_e {x y : Nat → Nat → Int32} (h : y 0 = x 0) : Hi x y := fun k _ => by rw [h]
theorem Hi_b (x : Nat → Nat → Int32) (c : Int32) : Hi x (bdX c x) := Hi_e (bdX_0 x c)
theorem Hi_M {x y : Nat → Nat → Int32} {d d' : Nat → Nat} (h : mk_MP (x 0) d) (g : mk_MP (y 0) d') (e : ∀ k, 57 ≤ k → d' k = d k) : Hi x y := fun k hk => by rw [g k, h k, e k hk]
theorem hi_u {f g : Nat → Int32} {i : Nat} {v : Int32} (h : ∀ k, 57 ≤ k → g k = f k) (hi : i < 57) : ∀ k, 57 ≤ k → upd g i v k = f k := fun k hk => by rw [upd_n (by omega), h k hk]
/-- what a line is, up to its sign: on the reference's side F, on the class's side G -/
def Lok (T : Nat → Nat → Int32) (tl q : Nat) (x : Nat → Nat → Int32) (G : Option (Int32 × (Nat → Nat → Int32) × (Nat → Nat → Int32))) (F : Option (Nat → Nat → Int32)) (d' : Nat → Nat) : Prop := ∃ r2 D2 y q2, G = b2 (f_R_readSign r2 T) (fun a b => gZ a (some (a, b, D2))) ∧ F = some y ∧ Rd (T 0) tl q2 r2 y ∧ mk_MP (y 0) d' ∧ mk_CP D2 d' ∧ Sm x y ∧ q < q2
def Lno (x : Nat → Nat → Int32) (G : Option (Int32 × (Nat → Nat → Int32) × (Nat → Nat → Int32))) (F : Option (Nat → Nat → Int32)) : Prop := ∃ r2 D2 y, G = some (0, r2, D2) ∧ F = some y ∧ Bd r2 y ∧ Sm x y ∧ Hi x y
def dC (d : Nat → Nat) (l s k w : Nat) : Nat → Nat := ud (ud (ud (ud d 0 l) 1 s) 2 k) 3 w
noncomputable def gC (x : Nat → Nat → Int32) : Option (Nat → Nat → Int32) := b2 (f_X_named x 1 0 3) (fun r5 uX_6 => b2 (f_X_named (upR 0 (upd (uX_6 0) 0 r5) uX_6) 2 1 200) (fun r8 uX_9 => b2 (f_X_named (upR 0 (upd (uX_9 0) 1 r8) uX_9) 3 0 9) (fun r11 uX_12 => b2 (f_X_named (upR 0 (upd (uX_12 0) 2 r11) uX_12) 4 1 20) (fun r14 uX_15 => some (upR 0 (upd (uX_15 0) 3 r14) uX_15)))))
theorem gC_bad {x : Nat → Nat → Int32} (h : x 12 0 = 1) : ∃ g, gC x = some (upR 0 g x) ∧ ∀ k, 57 ≤ k → g k = x 0 k := by
  unfold gC
  rw [X_nB h, b2_k, X_nB (x := upR 0 _ x) h, b2_k, X_nB (x := upR 0 _ (upR 0 _ x)) h, b2_k, X_nB (x := upR 0 _ (upR 0 _ (upR 0 _ x))) h, b2_k, upR_R, upR_R, upR_R]
  exact ⟨_, rfl, hi_u (hi_u (hi_u (hi_u (fun _ _ => rfl) (by omega)) (by omega)) (by omega)) (by omega)⟩
theorem J_chan {T r x D : Nat → Nat → Int32} {tl q : Nat} {d : Nat → Nat} (ht : tl ≤ 500) (h1 : T 1 0 = nI tl) (h : Rd (T 0) tl q r x) (hM : mk_MP (x 0) d) (hC : mk_CP D d) : (∃ l s k w, l ≤ 3 ∧ 1 ≤ s ∧ s ≤ 200 ∧ k ≤ 9 ∧ 1 ≤ w ∧ w ≤ 20 ∧ Lok T tl q x (f_R_readChannel r T D) (gC x) (dC d l s k w)) ∨ Lno x (f_R_readChannel r T D) (gC x) := by
  unfold f_R_readChannel gC
  rw [show (0 : Int32) = nI 0 from rfl, show (3 : Int32) = nI 3 from rfl, show (1 : Int32) = nI 1 from rfl, show (200 : Int32) = nI 200 from rfl, show (9 : Int32) = nI 9 from rfl, show (20 : Int32) = nI 20 from rfl]
  have o1 : ¬ nI 1 = nI 0 := by decide
  rcases J_named (w := 1) (lo := 0) (hi := 3) ht h1 (by omega) (by omega) (by omega) h with ⟨l, r1, r2, y, q2, _, v2, a1, a2, a3, a4, a5, a6, a7, a8⟩ | ⟨r1, v, y, a1, a4, a5, a6, a7⟩
  rotate_left
  · right
    refine ⟨r1, D, ?_⟩
    have e : ∃ g, b2 (f_X_named (upR 0 (upd (y 0) 0 v) y) 2 (nI 1) (nI 200)) (fun r8 uX_9 => b2 (f_X_named (upR 0 (upd (uX_9 0) 1 r8) uX_9) 3 (nI 0) (nI 9)) (fun r11 uX_12 => b2 (f_X_named (upR 0 (upd (uX_12 0) 2 r11) uX_12) 4 (nI 1) (nI 20)) (fun r14 uX_15 => some (upR 0 (upd (uX_15 0) 3 r14) uX_15)))) = some (upR 0 g y) ∧ ∀ k, 57 ≤ k → g k = y 0 k := by
      rw [X_nB (x := upR 0 _ y) a5.1, b2_k, X_nB (x := upR 0 _ (upR 0 _ y)) a5.1, b2_k, X_nB (x := upR 0 _ (upR 0 _ (upR 0 _ y))) a5.1, b2_k, upR_R, upR_R, upR_R]
      exact ⟨_, rfl, hi_u (hi_u (hi_u (hi_u (fun _ _ => rfl) (by omega)) (by omega)) (by omega)) (by omega)⟩
    obtain ⟨g, e, eg⟩ := e
    refine ⟨upR 0 g y, ?_, by rw [a4, b2_k, e], a5, Sm_t a7 (Sm_0 _ _), Hi_t (Hi_e a6) eg⟩
    rcases a1 with a1 | ⟨r0, a0, a1⟩
    · rw [show (0 : Int32) = nI 0 from rfl] at a1
      rw [a1, b2_k, if_pos rfl]; rfl
    · rw [show (0 : Int32) = nI 0 from rfl] at a1
      rw [show (1 : Int32) = nI 1 from rfl] at a0
      rw [a0, b2_k, if_neg o1, a1, b2_k, if_pos rfl]; rfl
  rw [show (1 : Int32) = nI 1 from rfl] at a1 a2
  rw [a1, b2_k, if_neg o1, a2, b2_k, if_neg o1, a4, b2_k, a3]
  have M1 : mk_MP ((upR 0 (upd (y 0) 0 (nI l)) y) 0) (ud d 0 l) := by rw [upR_s, a6]; exact mk_MP_u hM 0 l
  have C1 : mk_CP (upF 0 (nI l) D) (ud d 0 l) := mk_CP_L hC l
  have S1 : Sm x (upR 0 (upd (y 0) 0 (nI l)) y) := Sm_t a7 (Sm_0 _ _)
  have R1 : Rd (T 0) tl q2 r2 (upR 0 (upd (y 0) 0 (nI l)) y) := a5
  generalize upR 0 (upd (y 0) 0 (nI l)) y = x1 at *
  generalize upF 0 (nI l) D = D1 at *
  clear a1 a2 a3 a4 a5 a6 a7
  rcases J_named (w := 2) (lo := 1) (hi := 200) ht h1 (by omega) (by omega) (by omega) R1 with ⟨s, s1, s2, y2, q3, u1, u2, a1, a2, a3, a4, a5, a6, a7, a9⟩ | ⟨s1, v, y2, a1, a4, a5, a6, a7⟩
  rotate_left
  · right
    refine ⟨s1, D1, ?_⟩
    have e : ∃ g, b2 (f_X_named (upR 0 (upd (y2 0) 1 v) y2) 3 (nI 0) (nI 9)) (fun r11 uX_12 => b2 (f_X_named (upR 0 (upd (uX_12 0) 2 r11) uX_12) 4 (nI 1) (nI 20)) (fun r14 uX_15 => some (upR 0 (upd (uX_15 0) 3 r14) uX_15))) = some (upR 0 g y2) ∧ ∀ k, 57 ≤ k → g k = y2 0 k := by
      rw [X_nB (x := upR 0 _ y2) a5.1, b2_k, X_nB (x := upR 0 _ (upR 0 _ y2)) a5.1, b2_k, upR_R, upR_R]
      exact ⟨_, rfl, hi_u (hi_u (hi_u (fun _ _ => rfl) (by omega)) (by omega)) (by omega)⟩
    obtain ⟨g, e, eg⟩ := e
    refine ⟨upR 0 g y2, ?_, by rw [a4, b2_k, e], a5, Sm_t S1 (Sm_t a7 (Sm_0 _ _)), Hi_t (Hi_M hM M1 (fun k hk => ud_n (by omega))) (Hi_t (Hi_e a6) eg)⟩
    rcases a1 with a1 | ⟨r0, a0, a1⟩
    · rw [show (0 : Int32) = nI 0 from rfl] at a1
      rw [a1, b2_k, if_pos rfl]; rfl
    · rw [show (0 : Int32) = nI 0 from rfl] at a1
      rw [show (1 : Int32) = nI 1 from rfl] at a0
      rw [a0, b2_k, if_neg o1, a1, b2_k, if_pos rfl]; rfl
  rw [show (1 : Int32) = nI 1 from rfl] at a1 a2
  rw [a1, b2_k, if_neg o1, a2, b2_k, if_neg o1, a4, b2_k, a3]
  have M2 : mk_MP ((upR 0 (upd (y2 0) 1 (nI s)) y2) 0) (ud (ud d 0 l) 1 s) := by rw [upR_s, a6]; exact mk_MP_u M1 1 s
  have C2 : mk_CP (upF 1 (nI s) D1) (ud (ud d 0 l) 1 s) := mk_CP_1 C1 s
  have S2 : Sm x (upR 0 (upd (y2 0) 1 (nI s)) y2) := Sm_t S1 (Sm_t a7 (Sm_0 _ _))
  have R2 : Rd (T 0) tl q3 s2 (upR 0 (upd (y2 0) 1 (nI s)) y2) := a5
  generalize upR 0 (upd (y2 0) 1 (nI s)) y2 = x2 at *
  generalize upF 1 (nI s) D1 = D2 at *
  clear a1 a2 a3 a4 a5 a6 a7
  rcases J_named (w := 3) (lo := 0) (hi := 9) ht h1 (by omega) (by omega) (by omega) R2 with ⟨k, k1, k2, y3, q4, _, u4, a1, a2, a3, a4, a5, a6, a7, a10⟩ | ⟨k1, v, y3, a1, a4, a5, a6, a7⟩
  rotate_left
  · right
    refine ⟨k1, D2, ?_⟩
    have e : ∃ g, b2 (f_X_named (upR 0 (upd (y3 0) 2 v) y3) 4 (nI 1) (nI 20)) (fun r14 uX_15 => some (upR 0 (upd (uX_15 0) 3 r14) uX_15)) = some (upR 0 g y3) ∧ ∀ k, 57 ≤ k → g k = y3 0 k := by
      rw [X_nB (x := upR 0 _ y3) a5.1, b2_k, upR_R]
      exact ⟨_, rfl, hi_u (hi_u (fun _ _ => rfl) (by omega)) (by omega)⟩
    obtain ⟨g, e, eg⟩ := e
    refine ⟨upR 0 g y3, ?_, by rw [a4, b2_k, e], a5, Sm_t S2 (Sm_t a7 (Sm_0 _ _)), Hi_t (Hi_M hM M2 (fun k hk => by rw [ud_n (by omega), ud_n (by omega)])) (Hi_t (Hi_e a6) eg)⟩
    rcases a1 with a1 | ⟨r0, a0, a1⟩
    · rw [show (0 : Int32) = nI 0 from rfl] at a1
      rw [a1, b2_k, if_pos rfl]; rfl
    · rw [show (0 : Int32) = nI 0 from rfl] at a1
      rw [show (1 : Int32) = nI 1 from rfl] at a0
      rw [a0, b2_k, if_neg o1, a1, b2_k, if_pos rfl]; rfl
  rw [show (1 : Int32) = nI 1 from rfl] at a1 a2
  rw [a1, b2_k, if_neg o1, a2, b2_k, if_neg o1, a4, b2_k, a3]
  have M3 : mk_MP ((upR 0 (upd (y3 0) 2 (nI k)) y3) 0) (ud (ud (ud d 0 l) 1 s) 2 k) := by rw [upR_s, a6]; exact mk_MP_u M2 2 k
  have C3 : mk_CP (upF 2 (nI k) D2) (ud (ud (ud d 0 l) 1 s) 2 k) := mk_CP_2 C2 k
  have S3 : Sm x (upR 0 (upd (y3 0) 2 (nI k)) y3) := Sm_t S2 (Sm_t a7 (Sm_0 _ _))
  have R3 : Rd (T 0) tl q4 k2 (upR 0 (upd (y3 0) 2 (nI k)) y3) := a5
  generalize upR 0 (upd (y3 0) 2 (nI k)) y3 = x3 at *
  generalize upF 2 (nI k) D2 = D3 at *
  clear a1 a2 a3 a4 a5 a6 a7
  rcases J_named (w := 4) (lo := 1) (hi := 20) ht h1 (by omega) (by omega) (by omega) R3 with ⟨w, w1, w2, y4, q5, u5, u6, a1, a2, a3, a4, a5, a6, a7, a11⟩ | ⟨w1, v, y4, a1, a4, a5, a6, a7⟩
  rotate_left
  · right
    refine ⟨w1, D3, upR 0 (upd (y4 0) 3 v) y4, ?_, by rw [a4, b2_k], a5, Sm_t S3 (Sm_t a7 (Sm_0 _ _)), Hi_t (Hi_M hM M3 (fun k hk => by rw [ud_n (by omega), ud_n (by omega), ud_n (by omega)])) (Hi_t (Hi_e a6) (hi_u (fun _ _ => rfl) (by omega)))⟩
    rcases a1 with a1 | ⟨r0, a0, a1⟩
    · rw [show (0 : Int32) = nI 0 from rfl] at a1
      rw [a1, b2_k, if_pos rfl]; rfl
    · rw [show (0 : Int32) = nI 0 from rfl] at a1
      rw [show (1 : Int32) = nI 1 from rfl] at a0
      rw [a0, b2_k, if_neg o1, a1, b2_k, if_pos rfl]; rfl
  rw [show (1 : Int32) = nI 1 from rfl] at a1 a2
  rw [a1, b2_k, if_neg o1, a2, b2_k, if_neg o1, a4, b2_k, a3]
  left
  refine ⟨l, s, k, w, v2, u1, u2, u4, u5, u6, w2, upF 3 (nI w) D3, upR 0 (upd (y4 0) 3 (nI w)) y4, q5, rfl, rfl, a5, ?_, mk_CP_3 C3 w, Sm_t S3 (Sm_t a7 (Sm_0 _ _)), by omega⟩
  rw [upR_s, a6]
  exact mk_MP_u M3 3 w
