section
/-! The class' bounds: solids -/
theorem yq_1 (w : zW) {a : Int} (ha : a = 101 ∨ a = 184) : zR w a 0 = a + 1 ∧ zR w a 1 = a + 2 ∧ zR w a 2 = a + 3 := by
  rcases ha with rfl | rfl <;> exact ⟨rfl, rfl, rfl⟩
theorem yq_2 (w : zW) {a l : Int} (ha : a = 101 ∨ a = 184) (h : 0 ≤ l ∧ l < 8) : zR w (a + 2) l = a + 4 + 2 * l ∧ zR w (a + 3) l = a + 5 + 2 * l := by
  have : l = 0 ∨ l = 1 ∨ l = 2 ∨ l = 3 ∨ l = 4 ∨ l = 5 ∨ l = 6 ∨ l = 7 := by omega
  rcases ha with rfl | rfl <;> rcases this with rfl | rfl | rfl | rfl | rfl | rfl | rfl | rfl <;> exact ⟨rfl, rfl⟩
/-- the region of a row -/
def yRg (σ : zMem) (a r : Int) (R : zrg) : Prop := (σ (a + 1) (6 * r) = R.1.1 ∧ σ (a + 1) (6 * r + 3) = R.1.2) ∧ (σ (a + 1) (6 * r + 1) = R.2.1.1 ∧ σ (a + 1) (6 * r + 4) = R.2.1.2) ∧ σ (a + 1) (6 * r + 2) = R.2.2.1 ∧ σ (a + 1) (6 * r + 5) = R.2.2.2
theorem yRg_pk {σ : zMem} {a r i : Int} {R : zrg} (h : yRg σ a r R) (hi : 0 ≤ i ∧ i < 3) : σ (a + 1) (6 * r + i) = (zpk i R).1 ∧ σ (a + 1) (6 * r + 3 + i) = (zpk i R).2 := by
  obtain ⟨⟨h0, h3⟩, ⟨h1, h4⟩, h2, h5⟩ := h
  have : i = 0 ∨ i = 1 ∨ i = 2 := by omega
  rcases this with rfl | rfl | rfl
  · rw [Int.add_zero, Int.add_zero]; exact ⟨h0, h3⟩
  · rw [show 6 * r + 3 + 1 = 6 * r + 4 by omega]; exact ⟨h1, h4⟩
  · rw [show 6 * r + 3 + 2 = 6 * r + 5 by omega]; exact ⟨h2, h5⟩
/-- both ends of a level are W -/
def yA2 (σ : zMem) (a l : Int) (W : Int × Int) : Prop := yA σ (a + 4 + 2 * l) W.1 ∧ yA σ (a + 5 + 2 * l) W.2
def yK2 (σ σ' : zMem) (f g : Int) : Prop := ∀ c k, c ≠ f → c ≠ g → σ' c k = σ c k
theorem s_put2 (w : zW) (d : Nat) {a l : Int} (ha : a = 101 ∨ a = 184) (hl : 0 ≤ l ∧ l < 8) (u v : Int) (σ : zMem) :
    ∃ σ', ((zcall w d 16 [zA 2 2 (a + 4 + 2 * l), zJ u] σ).bind fun r8 => if (0 : Int) ≤ l ∧ l < 8 then (zcall w d 16 [zA 2 2 (a + 5 + 2 * l), zJ v] r8.2).bind fun r9 => some ((0 : Int), r9.2) else none) = some (0, σ') ∧ yA2 σ' a l (u * zONE, v * zONE) ∧ yK2 σ σ' (a + 4 + 2 * l) (a + 5 + 2 * l) := by
  obtain ⟨σ1, e1, u1, v1⟩ := s_16 w d (f := a + 4 + 2 * l) (by omega) u σ
  obtain ⟨σ2, e2, u2, v2⟩ := s_16 w d (f := a + 5 + 2 * l) (by omega) v σ1
  rw [e1, Option.bind_some]
  dsimp only
  rw [if_pos hl, e2, Option.bind_some]
  exact ⟨σ2, rfl, ⟨yA_c (v2 _ _ (by omega)) (v2 _ _ (by omega)) u1, u2⟩, fun c k h g => (v2 c k g).trans (v1 c k h)⟩
theorem l_99 (w : zW) {d : Nat} {a : Int} (ha : a = 101 ∨ a = 184) {σ : zMem} {T : Int → Int} {s r i l : Int} {R : zrg} (t : yTs σ T s) (hk : T (11 * s) = 3) (hN : zNV 3 (fun i => T (11 * s + 5 + i))) (hr : 0 ≤ r ∧ r ≤ 6) (hi : 0 ≤ i ∧ i < 3)
    (hR : yRg σ a r R) (hb : yrb 429 R) (v5 v11 v12 : zV) {lo hi' : Int} (hl : -1000000 ≤ lo ∧ lo ≤ 1000000) (hh : -1000000 ≤ hi' ∧ hi' ≤ 1000000) :
    ∃ u5 u11 u12, zden w (d + 1) 99 15 [zA 9 3 a, zA 10 8 2, zI s, zI (6 * r), zI l, v5, zJ lo, zU, zJ hi', zU, zI i, v11, v12] [] σ
      = zden w (d + 1) 99 15 [zA 9 3 a, zA 10 8 2, zI s, zI (6 * r), zI l, u5, zJ (lo + zls ((zpk i R).1 - T (11 * s + 5 + i)) ((zpk i R).2 - T (11 * s + 5 + i))), zU, zJ (hi' + max (((zpk i R).1 - T (11 * s + 5 + i)) * ((zpk i R).1 - T (11 * s + 5 + i))) (((zpk i R).2 - T (11 * s + 5 + i)) * ((zpk i R).2 - T (11 * s + 5 + i)))), zU, zI (i + 1), u11, u12] [] σ := by
  obtain ⟨h1, -, -⟩ := yq_1 w ha
  obtain ⟨p1, p2⟩ := yRg_pk hR hi
  have b := ypk_b (a := i) hb
  have n : -40 ≤ T (11 * s + 5 + i) ∧ T (11 * s + 5 + i) ≤ 55 := by
    have v := yV3 hN
    have : i = 0 ∨ i = 1 ∨ i = 2 := by omega
    rcases this with rfl | rfl | rfl
    · exact v.1
    · exact v.2.1
    · exact v.2.2.1
  have a0 : zar 0 (6 * r) i = 6 * r + i := by rw [za_0, zw32_i (by omega)]
  have a1 : zar 0 (zar 0 (6 * r) 3) i = 6 * r + 3 + i := by rw [za_0 (6 * r) 3, zw32_i (z := 6 * r + 3) (by omega), za_0, zw32_i (by omega)]
  have a2 : zar 0 i 1 = i + 1 := by rw [za_0, zw32_i (by omega)]
  have e := s_118 w d (k := i) t hi.1 (by rw [hk]; show i < 4; omega)
  generalize T (11 * s + 5 + i) = N at *
  generalize (zpk i R).1 = f at *
  generalize (zpk i R).2 = g at *
  have q1 := ysq2 (a := f - N) (n := 484) (by omega)
  have q2 := ysq2 (a := g - N) (n := 484) (by omega)
  rw [hX8_ofBall_15, if_pos (by omega), a0, if_pos (by omega), e, Option.bind_some]
  dsimp only
  rw [a1, if_pos (by omega), e, Option.bind_some]
  dsimp only
  have w1 : zar 1 f N = f - N := by rw [za_1, zw32_i (by omega)]
  have w2 : zar 1 g N = g - N := by rw [za_1, zw32_i (by omega)]
  have w3 : zar 2 (f - N) (f - N) = (f - N) * (f - N) := by rw [za_2, zw32_i (by omega)]
  have w4 : zar 2 (g - N) (g - N) = (g - N) * (g - N) := by rw [za_2, zw32_i (by omega)]
  simp only [h1, p1, p2, w1, w2, w3, w4, a2]
  by_cases c1 : 0 < f - N
  · have ez : zls (f - N) (g - N) = min ((f - N) * (f - N)) ((g - N) * (g - N)) := by rw [zls, if_neg (by omega)]
    rw [if_pos c1, s_343, Option.bind_some]
    dsimp only
    rw [s_341, Option.bind_some]
    dsimp only
    rw [za_12, za_12, zw64_i (by omega), zw64_i (by omega), ez]
    exact ⟨_, _, _, rfl⟩
  · rw [if_neg c1]
    by_cases c2 : g - N < 0
    · have ez : zls (f - N) (g - N) = min ((f - N) * (f - N)) ((g - N) * (g - N)) := by rw [zls, if_neg (by omega)]
      rw [if_pos c2, s_343, Option.bind_some]
      dsimp only
      rw [s_341, Option.bind_some]
      dsimp only
      rw [za_12, za_12, zw64_i (by omega), zw64_i (by omega), ez]
      exact ⟨_, _, _, rfl⟩
    · have ez : zls (f - N) (g - N) = 0 := by rw [zls, if_pos (by omega)]
      rw [if_neg c2, s_341, Option.bind_some]
      dsimp only
      rw [za_12, za_12, zw64_i (by omega), zw64_i (by omega), ez]
      exact ⟨_, _, _, rfl⟩
theorem s_99 (w : zW) {d : Nat} (hd : 1 ≤ d) {a : Int} (ha : a = 101 ∨ a = 184) {σ : zMem} {T : Int → Int} {s r l : Int} {R : zrg} (t : yTs σ T s) (hk : T (11 * s) = 3) (hN : zNV 3 (fun i => T (11 * s + 5 + i))) (hr : 0 ≤ r ∧ r ≤ 6) (hl : 0 ≤ l ∧ l < 8) (hR : yRg σ a r R) (hb : yrb 429 R) :
    ∃ σ', zcall w d 99 [zA 9 3 a, zA 10 8 2, zI s, zI (6 * r), zI l] σ = some (0, σ') ∧ yA2 σ' a l ((zsb 3 (fun i => T (11 * s + 5 + i)) R).1 * zONE, (zsb 3 (fun i => T (11 * s + 5 + i)) R).2 * zONE) ∧ yK2 σ σ' (a + 4 + 2 * l) (a + 5 + 2 * l) := by
  obtain ⟨d, rfl⟩ : ∃ e, d = e + 1 := ⟨d - 1, by omega⟩
  obtain ⟨-, h2, h3⟩ := yq_1 w ha
  obtain ⟨h4, h5⟩ := yq_2 w ha hl
  have v := yV3 hN
  have q3 := ysq2 (a := T (11 * s + 5 + 3)) (n := 40) (by omega)
  have e := s_118 w d (k := 3) t (by decide) (by rw [hk]; decide)
  have em : zar 2 (zar 5 (T (11 * s + 5 + 3)) 0) (T (11 * s + 5 + 3)) = -(T (11 * s + 5 + 3) * T (11 * s + 5 + 3)) := by
    have : -T (11 * s + 5 + 3) * T (11 * s + 5 + 3) = -(T (11 * s + 5 + 3) * T (11 * s + 5 + 3)) := Int.neg_mul _ _
    rw [za_5, zw32_i (by omega), za_2, this, zw32_i (by omega)]
  have b0 := yls_b (a := (zpk 0 R).1 - T (11 * s + 5 + 0)) (b := (zpk 0 R).2 - T (11 * s + 5 + 0)) (n := 484) (by have := ypk_b (a := 0) hb; omega) (by have := ypk_b (a := 0) hb; omega)
  have b1 := yls_b (a := (zpk 1 R).1 - T (11 * s + 5 + 1)) (b := (zpk 1 R).2 - T (11 * s + 5 + 1)) (n := 484) (by have := ypk_b (a := 1) hb; omega) (by have := ypk_b (a := 1) hb; omega)
  have c0 := ysq2 (a := (zpk 0 R).1 - T (11 * s + 5 + 0)) (n := 484) (by have := ypk_b (a := 0) hb; omega)
  have c1 := ysq2 (a := (zpk 0 R).2 - T (11 * s + 5 + 0)) (n := 484) (by have := ypk_b (a := 0) hb; omega)
  have c2 := ysq2 (a := (zpk 1 R).1 - T (11 * s + 5 + 1)) (n := 484) (by have := ypk_b (a := 1) hb; omega)
  have c3 := ysq2 (a := (zpk 1 R).2 - T (11 * s + 5 + 1)) (n := 484) (by have := ypk_b (a := 1) hb; omega)
  rw [eX8_ofBall, e, Option.bind_some]
  dsimp only
  rw [em]
  obtain ⟨u1, u2, u3, e1⟩ := l_99 w (d := d) ha (l := l) t hk hN hr (i := 0) (by decide) hR hb (zI (T (11 * s + 5 + 3))) zU zU (lo := -(T (11 * s + 5 + 3) * T (11 * s + 5 + 3))) (hi' := -(T (11 * s + 5 + 3) * T (11 * s + 5 + 3))) (by omega) (by omega)
  rw [e1]
  obtain ⟨w1, w2, w3, e2⟩ := l_99 w (d := d) ha (l := l) t hk hN hr (i := 1) (by decide) hR hb u1 u2 u3 (lo := -(T (11 * s + 5 + 3) * T (11 * s + 5 + 3)) + zls ((zpk 0 R).1 - T (11 * s + 5 + 0)) ((zpk 0 R).2 - T (11 * s + 5 + 0)))
    (hi' := -(T (11 * s + 5 + 3) * T (11 * s + 5 + 3)) + max (((zpk 0 R).1 - T (11 * s + 5 + 0)) * ((zpk 0 R).1 - T (11 * s + 5 + 0))) (((zpk 0 R).2 - T (11 * s + 5 + 0)) * ((zpk 0 R).2 - T (11 * s + 5 + 0)))) (by omega) (by omega)
  rw [show (0 : Int) + 1 = 1 from rfl, e2]
  obtain ⟨x1, x2, x3, e3⟩ := l_99 w (d := d) ha (l := l) t hk hN hr (i := 2) (by decide) hR hb w1 w2 w3 (lo := -(T (11 * s + 5 + 3) * T (11 * s + 5 + 3)) + zls ((zpk 0 R).1 - T (11 * s + 5 + 0)) ((zpk 0 R).2 - T (11 * s + 5 + 0)) + zls ((zpk 1 R).1 - T (11 * s + 5 + 1)) ((zpk 1 R).2 - T (11 * s + 5 + 1)))
    (hi' := -(T (11 * s + 5 + 3) * T (11 * s + 5 + 3)) + max (((zpk 0 R).1 - T (11 * s + 5 + 0)) * ((zpk 0 R).1 - T (11 * s + 5 + 0))) (((zpk 0 R).2 - T (11 * s + 5 + 0)) * ((zpk 0 R).2 - T (11 * s + 5 + 0))) + max (((zpk 1 R).1 - T (11 * s + 5 + 1)) * ((zpk 1 R).1 - T (11 * s + 5 + 1))) (((zpk 1 R).2 - T (11 * s + 5 + 1)) * ((zpk 1 R).2 - T (11 * s + 5 + 1)))) (by omega) (by omega)
  rw [show (1 : Int) + 1 = 2 from rfl, e3, show (2 : Int) + 1 = 3 from rfl, hX8_ofBall_15, if_neg (by decide), if_pos (by omega), h2, h3, h4, h5]
  obtain ⟨σ', y1, y2, y3⟩ := s_put2 w d ha hl (-(T (11 * s + 5 + 3) * T (11 * s + 5 + 3)) + zls ((zpk 0 R).1 - T (11 * s + 5 + 0)) ((zpk 0 R).2 - T (11 * s + 5 + 0)) + zls ((zpk 1 R).1 - T (11 * s + 5 + 1)) ((zpk 1 R).2 - T (11 * s + 5 + 1)) + zls ((zpk 2 R).1 - T (11 * s + 5 + 2)) ((zpk 2 R).2 - T (11 * s + 5 + 2)))
    (-(T (11 * s + 5 + 3) * T (11 * s + 5 + 3)) + max (((zpk 0 R).1 - T (11 * s + 5 + 0)) * ((zpk 0 R).1 - T (11 * s + 5 + 0))) (((zpk 0 R).2 - T (11 * s + 5 + 0)) * ((zpk 0 R).2 - T (11 * s + 5 + 0))) + max (((zpk 1 R).1 - T (11 * s + 5 + 1)) * ((zpk 1 R).1 - T (11 * s + 5 + 1))) (((zpk 1 R).2 - T (11 * s + 5 + 1)) * ((zpk 1 R).2 - T (11 * s + 5 + 1))) + max (((zpk 2 R).1 - T (11 * s + 5 + 2)) * ((zpk 2 R).1 - T (11 * s + 5 + 2))) (((zpk 2 R).2 - T (11 * s + 5 + 2)) * ((zpk 2 R).2 - T (11 * s + 5 + 2)))) σ
  refine ⟨σ', y1, ?_, y3⟩
  rw [zsb, if_pos rfl]
  have z0 : zpk 0 R = R.1 := rfl
  have z1 : zpk 1 R = R.2.1 := rfl
  have z2 : zpk 2 R = R.2.2 := rfl
  rw [z0, z1, z2] at y2
  have g1 : ∀ x y z u : Int, -u + x + y + z = x + y + z - u := fun x y z u => by omega
  rw [g1, g1] at y2
  exact y2
theorem s_100 (w : zW) {d : Nat} (hd : 1 ≤ d) {a : Int} (ha : a = 101 ∨ a = 184) {σ : zMem} {T : Int → Int} {s r l : Int} {R : zrg} (t : yTs σ T s) (hk : T (11 * s) = 4) (hN : zNV 4 (fun i => T (11 * s + 5 + i))) (hr : 0 ≤ r ∧ r ≤ 6) (hl : 0 ≤ l ∧ l < 8) (hR : yRg σ a r R) (hb : yrb 429 R) :
    ∃ σ', zcall w d 100 [zA 9 3 a, zA 10 8 2, zI s, zI (6 * r), zI l] σ = some (0, σ') ∧ yA2 σ' a l ((zsb 4 (fun i => T (11 * s + 5 + i)) R).1 * zONE, (zsb 4 (fun i => T (11 * s + 5 + i)) R).2 * zONE) ∧ yK2 σ σ' (a + 4 + 2 * l) (a + 5 + 2 * l) := by
  obtain ⟨d, rfl⟩ : ∃ e, d = e + 1 := ⟨d - 1, by omega⟩
  obtain ⟨h1, h2, h3⟩ := yq_1 w ha
  obtain ⟨h4, h5⟩ := yq_2 w ha hl
  have v := yV4 hN
  have st : ∀ (i x5 x6 : Int) (v8 v9 v10 v11 : zV), 0 ≤ i → i < 3 → ∃ u8 u9 u10 u11, zden w (d + 1) 100 6 [zA 9 3 a, zA 10 8 2, zI s, zI (6 * r), zI l, zI x5, zI x6, zI i, v8, v9, v10, v11] [] σ
      = zden w (d + 1) 100 6 [zA 9 3 a, zA 10 8 2, zI s, zI (6 * r), zI l, zI (max x5 (max (T (11 * s + 5 + i) - (zpk i R).2) ((zpk i R).1 - T (11 * s + 5 + (3 + i))))), zI (max x6 (max (T (11 * s + 5 + i) - (zpk i R).1) ((zpk i R).2 - T (11 * s + 5 + (3 + i))))), zI (i + 1), u8, u9, u10, u11] [] σ := by
    intro i x5 x6 v8 v9 v10 v11 i0 i1
    obtain ⟨p1, p2⟩ := yRg_pk hR ⟨i0, i1⟩
    have b := ypk_b (a := i) hb
    have n : (-40 ≤ T (11 * s + 5 + i) ∧ T (11 * s + 5 + i) ≤ 55) ∧ -40 ≤ T (11 * s + 5 + (3 + i)) ∧ T (11 * s + 5 + (3 + i)) ≤ 55 := by
      have : i = 0 ∨ i = 1 ∨ i = 2 := by omega
      rcases this with rfl | rfl | rfl
      · rw [show (3 : Int) + 0 = 3 from rfl]; omega
      · rw [show (3 : Int) + 1 = 4 from rfl]; omega
      · rw [show (3 : Int) + 2 = 5 from rfl]; omega
    have a0 : zar 0 (6 * r) i = 6 * r + i := by rw [za_0, zw32_i (by omega)]
    have a1 : zar 0 (zar 0 (6 * r) 3) i = 6 * r + 3 + i := by rw [za_0 (6 * r) 3, zw32_i (z := 6 * r + 3) (by omega), za_0, zw32_i (by omega)]
    have a2 : zar 0 i 1 = i + 1 := by rw [za_0, zw32_i (by omega)]
    have a3 : zar 0 3 i = 3 + i := by rw [za_0, zw32_i (by omega)]
    have e := s_118 w d (k := i) t i0 (by rw [hk]; show i < 6; omega)
    have e' := s_118 w d (k := 3 + i) t (by omega) (by rw [hk]; show 3 + i < 6; omega)
    generalize T (11 * s + 5 + i) = N at *
    generalize T (11 * s + 5 + (3 + i)) = M at *
    generalize (zpk i R).1 = f at *
    generalize (zpk i R).2 = g at *
    rw [hX8_ofBox_6, if_pos i1, a0, if_pos (by omega), a1, if_pos (by omega), e, Option.bind_some]
    dsimp only
    rw [a3, e', Option.bind_some]
    dsimp only
    rw [h1, p1, p2, s_341, Option.bind_some]
    dsimp only
    rw [s_341, Option.bind_some]
    dsimp only
    rw [s_341, Option.bind_some]
    dsimp only
    rw [s_341, Option.bind_some]
    dsimp only
    rw [a2, za_1, zw32_i (by omega), za_1, zw32_i (by omega), za_1, zw32_i (by omega), za_1, zw32_i (by omega)]
    exact ⟨_, _, _, _, rfl⟩
  rw [eX8_ofBox]
  obtain ⟨_, _, _, _, e1⟩ := st 0 (-1000000000) (-1000000000) zU zU zU zU (by decide) (by decide)
  rw [e1, show (0 : Int) + 1 = 1 from rfl]
  obtain ⟨_, _, _, _, e2⟩ := st 1 _ _ _ _ _ _ (by decide) (by decide)
  rw [e2, show (1 : Int) + 1 = 2 from rfl]
  obtain ⟨_, _, _, _, e3⟩ := st 2 _ _ _ _ _ _ (by decide) (by decide)
  rw [e3, show (2 : Int) + 1 = 3 from rfl, hX8_ofBox_6, if_neg (by decide), if_pos (by omega), h2, h3, h4, h5]
  rw [zsb, if_neg (by decide), if_pos rfl]
  have z0 : zpk 0 R = R.1 := rfl
  have z1 : zpk 1 R = R.2.1 := rfl
  have z2 : zpk 2 R = R.2.2 := rfl
  rw [z0, z1, z2, show (3 : Int) + 0 = 3 from rfl, show (3 : Int) + 1 = 4 from rfl, show (3 : Int) + 2 = 5 from rfl]
  obtain ⟨⟨x0, x1⟩, ⟨y0, y1⟩, z0, z1⟩ := hb
  have g1 : ∀ x y z : Int, -1000000000 ≤ x → max (max (max (-1000000000) x) y) z = max (max x y) z := fun x y z _ => by omega
  rw [g1 _ _ _ (by omega), g1 _ _ _ (by omega)]
  exact s_put2 w d ha hl _ _ σ
theorem s_101 (w : zW) {d : Nat} (hd : 1 ≤ d) {a : Int} (ha : a = 101 ∨ a = 184) {σ : zMem} {T : Int → Int} {s r l : Int} {R : zrg} (t : yTs σ T s) (hk : T (11 * s) = 5) (hN : zNV 5 (fun i => T (11 * s + 5 + i))) (hr : 0 ≤ r ∧ r ≤ 6) (hl : 0 ≤ l ∧ l < 8) (hR : yRg σ a r R) (hb : yrb 429 R) :
    ∃ σ', zcall w d 101 [zA 9 3 a, zA 10 8 2, zI s, zI (6 * r), zI l] σ = some (0, σ') ∧ yA2 σ' a l ((zsb 5 (fun i => T (11 * s + 5 + i)) R).1 * zONE, (zsb 5 (fun i => T (11 * s + 5 + i)) R).2 * zONE) ∧ yK2 σ σ' (a + 4 + 2 * l) (a + 5 + 2 * l) := by
  obtain ⟨d, rfl⟩ : ∃ e, d = e + 1 := ⟨d - 1, by omega⟩
  obtain ⟨h1, h2, h3⟩ := yq_1 w ha
  obtain ⟨h4, h5⟩ := yq_2 w ha hl
  have v := yV5 hN
  have bp : ∀ i : Int, 0 ≤ i → i < 3 → (-3861 ≤ T (11 * s + 5 + i) * (zpk i R).1 ∧ T (11 * s + 5 + i) * (zpk i R).1 ≤ 3861) ∧ -3861 ≤ T (11 * s + 5 + i) * (zpk i R).2 ∧ T (11 * s + 5 + i) * (zpk i R).2 ≤ 3861 := by
    intro i i0 i1
    have b := ypk_b (a := i) hb
    have n : -9 ≤ T (11 * s + 5 + i) ∧ T (11 * s + 5 + i) ≤ 9 := by
      have : i = 0 ∨ i = 1 ∨ i = 2 := by omega
      rcases this with rfl | rfl | rfl
      · exact v.1
      · exact v.2.1
      · exact v.2.2.1
    exact ⟨ypr9 n b.1, ypr9 n b.2⟩
  have st : ∀ (i x5 x7 : Int) (v10 v11 : zV), 0 ≤ i → i < 3 → (-100000 ≤ x5 ∧ x5 ≤ 100000) → (-100000 ≤ x7 ∧ x7 ≤ 100000) → ∃ u10 u11, zden w (d + 1) 101 11 [zA 9 3 a, zA 10 8 2, zI s, zI (6 * r), zI l, zJ x5, zU, zJ x7, zU, zI i, v10, v11] [] σ
      = zden w (d + 1) 101 11 [zA 9 3 a, zA 10 8 2, zI s, zI (6 * r), zI l, zJ (x5 + min (T (11 * s + 5 + i) * (zpk i R).1) (T (11 * s + 5 + i) * (zpk i R).2)), zU, zJ (x7 + max (T (11 * s + 5 + i) * (zpk i R).1) (T (11 * s + 5 + i) * (zpk i R).2)), zU, zI (i + 1), u10, u11] [] σ := by
    intro i x5 x7 v10 v11 i0 i1 b5 b7
    obtain ⟨p1, p2⟩ := yRg_pk hR ⟨i0, i1⟩
    have q := bp i i0 i1
    have a0 : zar 0 (6 * r) i = 6 * r + i := by rw [za_0, zw32_i (by omega)]
    have a1 : zar 0 (zar 0 (6 * r) 3) i = 6 * r + 3 + i := by rw [za_0 (6 * r) 3, zw32_i (z := 6 * r + 3) (by omega), za_0, zw32_i (by omega)]
    have a2 : zar 0 i 1 = i + 1 := by rw [za_0, zw32_i (by omega)]
    have e := s_118 w d (k := i) t i0 (by rw [hk]; show i < 4; omega)
    generalize T (11 * s + 5 + i) = N at *
    generalize (zpk i R).1 = f at *
    generalize (zpk i R).2 = g at *
    rw [hX8_ofHalf_11, if_pos i1, a0, if_pos (by omega), e, Option.bind_some]
    dsimp only
    rw [a1, if_pos (by omega), e, Option.bind_some]
    dsimp only
    rw [h1, p1, p2, za_2, za_2, Int.mul_comm f N, Int.mul_comm g N, zw32_i (z := N * f) (by omega), zw32_i (z := N * g) (by omega), s_343, Option.bind_some]
    dsimp only
    rw [s_341, Option.bind_some]
    dsimp only
    rw [a2, za_12, za_12, zw64_i (by omega), zw64_i (by omega)]
    exact ⟨_, _, rfl⟩
  have q0 := bp 0 (by decide) (by decide)
  have q1 := bp 1 (by decide) (by decide)
  have q2 := bp 2 (by decide) (by decide)
  have em : zar 5 (T (11 * s + 5 + 3)) 0 = -T (11 * s + 5 + 3) := by rw [za_5, zw32_i (by omega)]
  rw [eX8_ofHalf, s_118 w d (k := 3) t (by decide) (by rw [hk]; decide), Option.bind_some]
  dsimp only
  rw [em]
  obtain ⟨_, _, e1⟩ := st 0 (-T (11 * s + 5 + 3)) (-T (11 * s + 5 + 3)) zU zU (by decide) (by decide) (by omega) (by omega)
  rw [e1, show (0 : Int) + 1 = 1 from rfl]
  obtain ⟨_, _, e2⟩ := st 1 (-T (11 * s + 5 + 3) + min (T (11 * s + 5 + 0) * (zpk 0 R).1) (T (11 * s + 5 + 0) * (zpk 0 R).2)) (-T (11 * s + 5 + 3) + max (T (11 * s + 5 + 0) * (zpk 0 R).1) (T (11 * s + 5 + 0) * (zpk 0 R).2)) _ _ (by decide) (by decide) (by omega) (by omega)
  rw [e2, show (1 : Int) + 1 = 2 from rfl]
  obtain ⟨_, _, e3⟩ := st 2 (-T (11 * s + 5 + 3) + min (T (11 * s + 5 + 0) * (zpk 0 R).1) (T (11 * s + 5 + 0) * (zpk 0 R).2) + min (T (11 * s + 5 + 1) * (zpk 1 R).1) (T (11 * s + 5 + 1) * (zpk 1 R).2)) (-T (11 * s + 5 + 3) + max (T (11 * s + 5 + 0) * (zpk 0 R).1) (T (11 * s + 5 + 0) * (zpk 0 R).2) + max (T (11 * s + 5 + 1) * (zpk 1 R).1) (T (11 * s + 5 + 1) * (zpk 1 R).2)) _ _ (by decide) (by decide) (by omega) (by omega)
  rw [e3, show (2 : Int) + 1 = 3 from rfl, hX8_ofHalf_11, if_neg (by decide), if_pos (by omega), h2, h3, h4, h5]
  rw [zsb, if_neg (by decide), if_neg (by decide)]
  have z0 : zpk 0 R = R.1 := rfl
  have z1 : zpk 1 R = R.2.1 := rfl
  have z2 : zpk 2 R = R.2.2 := rfl
  rw [z0, z1, z2]
  have g1 : ∀ x y z u : Int, -u + x + y + z = x + y + z - u := fun x y z u => by omega
  rw [g1, g1]
  exact s_put2 w d ha hl _ _ σ
end
