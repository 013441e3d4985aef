section
/-! The class' bounds: regions that move -/
def yrs (R : zrg) (i : Int) (v : Int × Int) : zrg := (if i = 0 then v else R.1, if i = 1 then v else R.2.1, if i = 2 then v else R.2.2)
theorem yRg_c {σ σ' : zMem} {a r : Int} {R : zrg} (h : ∀ j, 6 * r ≤ j → j < 6 * r + 6 → σ' (a + 1) j = σ (a + 1) j) (t : yRg σ a r R) : yRg σ' a r R :=
  ⟨⟨(h _ (by omega) (by omega)).trans t.1.1, (h _ (by omega) (by omega)).trans t.1.2⟩, ⟨(h _ (by omega) (by omega)).trans t.2.1.1, (h _ (by omega) (by omega)).trans t.2.1.2⟩, (h _ (by omega) (by omega)).trans t.2.2.1, (h _ (by omega) (by omega)).trans t.2.2.2⟩
theorem yRg_s {σ : zMem} {a r i u v : Int} {R : zrg} (ha : a + 1 ≠ 0) (hi : 0 ≤ i ∧ i < 3) (t : yRg σ a r R) : yRg (zup (zup σ (a + 1) (6 * r + i) u) (a + 1) (6 * r + i + 3) v) a r (yrs R i (u, v)) := by
  obtain ⟨⟨h0, h3⟩, ⟨h1, h4⟩, h2, h5⟩ := t
  have : i = 0 ∨ i = 1 ∨ i = 2 := by omega
  rcases this with rfl | rfl | rfl
  · refine ⟨⟨?_, ?_⟩, ⟨?_, ?_⟩, ?_, ?_⟩
    · rw [zup_f (by omega), zup_t ⟨rfl, by omega, ha⟩]; rfl
    · rw [zup_t ⟨rfl, by omega, ha⟩]; rfl
    · rw [zup_f (by omega), zup_f (by omega)]; exact h1
    · rw [zup_f (by omega), zup_f (by omega)]; exact h4
    · rw [zup_f (by omega), zup_f (by omega)]; exact h2
    · rw [zup_f (by omega), zup_f (by omega)]; exact h5
  · refine ⟨⟨?_, ?_⟩, ⟨?_, ?_⟩, ?_, ?_⟩
    · rw [zup_f (by omega), zup_f (by omega)]; exact h0
    · rw [zup_f (by omega), zup_f (by omega)]; exact h3
    · rw [zup_f (by omega), zup_t ⟨rfl, by omega, ha⟩]; rfl
    · rw [zup_t ⟨rfl, by omega, ha⟩]; rfl
    · rw [zup_f (by omega), zup_f (by omega)]; exact h2
    · rw [zup_f (by omega), zup_f (by omega)]; exact h5
  · refine ⟨⟨?_, ?_⟩, ⟨?_, ?_⟩, ?_, ?_⟩
    · rw [zup_f (by omega), zup_f (by omega)]; exact h0
    · rw [zup_f (by omega), zup_f (by omega)]; exact h3
    · rw [zup_f (by omega), zup_f (by omega)]; exact h1
    · rw [zup_f (by omega), zup_f (by omega)]; exact h4
    · rw [zup_f (by omega), zup_t ⟨rfl, by omega, ha⟩]; rfl
    · rw [zup_t ⟨rfl, by omega, ha⟩]; rfl
theorem s_106 (w : zW) {d : Nat} (hd : 1 ≤ d) {a r i m : Int} (ha : a = 101 ∨ a = 184) (hr : 0 ≤ r ∧ r ≤ 6) (hi : 0 ≤ i ∧ i < 3) (hm : 1 ≤ m ∧ m ≤ 16) {σ : zMem} {R : zrg} (t : yRg σ a r R) (hb : yrb 500 R) :
    ∃ σ', zcall w d 106 [zA 9 3 a, zI (6 * r + i), zI m] σ = some (0, σ') ∧ yRg σ' a r (yrs R i (zrpt m (zpk i R))) ∧ ∀ c j, (c ≠ a + 1 ∨ j < 6 * r) → σ' c j = σ c j := by
  obtain ⟨d, rfl⟩ : ∃ e, d = e + 1 := ⟨d - 1, by omega⟩
  obtain ⟨h1, -, -⟩ := yq_1 w ha
  obtain ⟨p1, p2⟩ := yRg_pk t hi
  have b := ypk_b (a := i) hb
  have a3 : zar 0 (6 * r + i) 3 = 6 * r + i + 3 := by rw [za_0, zw32_i (by omega)]
  rw [show 6 * r + 3 + i = 6 * r + i + 3 by omega] at p2
  have wr : ∀ u v : Int, (u, v) = zrpt m (zpk i R) → ∃ σ', some ((0 : Int), zup (zup σ (a + 1) (6 * r + i) u) (a + 1) (6 * r + i + 3) v) = some (0, σ') ∧ yRg σ' a r (yrs R i (zrpt m (zpk i R))) ∧ ∀ c j, (c ≠ a + 1 ∨ j < 6 * r) → σ' c j = σ c j := by
    intro u v e
    rw [← e]
    exact ⟨_, rfl, yRg_s (by omega) hi t, fun c j h => by rw [zup_f (by omega), zup_f (by omega)]⟩
  rw [eX8_repeat, if_neg (by omega), if_pos (by omega), h1, p1, s_339 w d ⟨by omega, by omega⟩ (by omega), Option.bind_some]
  dsimp only
  rw [a3, if_pos (by omega), p2, s_339 w d ⟨by omega, by omega⟩ (by omega), Option.bind_some]
  dsimp only
  have w1 : zar 1 m 1 = m - 1 := by rw [za_1, zw32_i (by omega)]
  have w2 : zar 1 (zpk i R).2 (zpk i R).1 = (zpk i R).2 - (zpk i R).1 := by rw [za_1, zw32_i (by omega)]
  simp only [p1, p2, w1, w2]
  by_cases c1 : (zpk i R).2 % m < (zpk i R).1 % m
  · rw [if_pos c1, if_pos (by omega), if_pos (by omega)]
    exact wr _ _ (by rw [zrpt, if_neg (by omega)])
  · rw [if_neg c1, if_pos (by omega), if_pos (by omega)]
    by_cases c2 : (zpk i R).2 - (zpk i R).1 < m
    · rw [if_pos c2, if_pos (by omega), if_pos (by omega)]
      exact wr _ _ (by rw [zrpt, if_pos ⟨by omega, c2⟩])
    · rw [if_neg c2, if_pos (by omega), if_pos (by omega)]
      exact wr _ _ (by rw [zrpt, if_neg (by omega)])
theorem s_107 (w : zW) {d : Nat} (hd : 1 ≤ d) {a r i m : Int} (ha : a = 101 ∨ a = 184) (hr : 0 ≤ r ∧ r ≤ 6) (hi : 0 ≤ i ∧ i < 3) (hm : 0 ≤ m ∧ m ≤ 15) {σ : zMem} {R : zrg} (t : yRg σ a r R) (hb : yrb 500 R) :
    ∃ σ', zcall w d 107 [zA 9 3 a, zI (6 * r + i), zI m] σ = some (0, σ') ∧ yRg σ' a r (yrs R i (zmir m (zpk i R))) ∧ ∀ c j, (c ≠ a + 1 ∨ j < 6 * r) → σ' c j = σ c j := by
  obtain ⟨d, rfl⟩ : ∃ e, d = e + 1 := ⟨d - 1, by omega⟩
  obtain ⟨h1, -, -⟩ := yq_1 w ha
  obtain ⟨p1, p2⟩ := yRg_pk t hi
  have b := ypk_b (a := i) hb
  have a3 : zar 0 (6 * r + i) 3 = 6 * r + i + 3 := by rw [za_0, zw32_i (by omega)]
  rw [show 6 * r + 3 + i = 6 * r + i + 3 by omega] at p2
  have wr : ∀ u v : Int, (u, v) = zmir m (zpk i R) → ∃ σ', some ((0 : Int), zup (zup σ (a + 1) (6 * r + i) u) (a + 1) (6 * r + i + 3) v) = some (0, σ') ∧ yRg σ' a r (yrs R i (zmir m (zpk i R))) ∧ ∀ c j, (c ≠ a + 1 ∨ j < 6 * r) → σ' c j = σ c j := by
    intro u v e
    rw [← e]
    exact ⟨_, rfl, yRg_s (by omega) hi t, fun c j h => by rw [zup_f (by omega), zup_f (by omega)]⟩
  have m1 : zar 1 (zar 2 2 m) (zpk i R).2 = 2 * m - (zpk i R).2 := by rw [za_2, zw32_i (by omega), za_1, zw32_i (by omega)]
  have m2 : zar 1 (zar 2 2 m) (zpk i R).1 = 2 * m - (zpk i R).1 := by rw [za_2, zw32_i (by omega), za_1, zw32_i (by omega)]
  rw [eX8_mirror, if_pos (by omega), a3, if_pos (by omega), h1, p1, p2, m1, m2]
  by_cases c1 : m < (zpk i R).2
  · rw [if_pos c1]
    by_cases c2 : m < (zpk i R).1
    · rw [if_pos c2, if_pos (by omega), if_pos c2, if_pos (by omega)]
      exact wr _ _ (by rw [zmir, if_neg (by omega), if_pos c2])
    · rw [if_neg c2, s_343, Option.bind_some]
      dsimp only
      rw [if_pos (by omega), if_neg c2, if_pos (by omega)]
      exact wr _ _ (by rw [zmir, if_neg (by omega), if_neg c2])
  · rw [if_neg c1]
    refine ⟨σ, rfl, ?_, fun c j _ => rfl⟩
    have e : zmir m (zpk i R) = zpk i R := by rw [zmir, if_pos (by omega)]
    have e2 : yrs R i (zpk i R) = R := by
      have : i = 0 ∨ i = 1 ∨ i = 2 := by omega
      rcases this with rfl | rfl | rfl <;> rfl
    rw [e, e2]
    exact t
theorem s_108 (w : zW) (d : Nat) {a i j : Int} (ha : a = 101 ∨ a = 184) (hi : 0 ≤ i ∧ i < 48) (hj : 0 ≤ j ∧ j < 48) (σ : zMem) :
    zcall w d 108 [zA 9 3 a, zI i, zI j] σ = some (0, zup (zup σ (a + 1) i (σ (a + 1) j)) (a + 1) j (σ (a + 1) i)) := by
  obtain ⟨h1, -, -⟩ := yq_1 w ha
  rw [eX8_turn, if_pos hi, if_pos hj, if_pos hi, if_pos hj, h1]
theorem yRg_t {σ : zMem} {a r i j : Int} {R : zrg} (ha : a + 1 ≠ 0) (hi : 0 ≤ i ∧ i < 3) (hj : 0 ≤ j ∧ j < 3) (hij : i ≠ j) (t : yRg σ a r R) {σ1 σ2 : zMem} (e1 : σ1 = zup (zup σ (a + 1) (6 * r + i) (σ (a + 1) (6 * r + j))) (a + 1) (6 * r + j) (σ (a + 1) (6 * r + i)))
    (e2 : σ2 = zup (zup σ1 (a + 1) (6 * r + 3 + i) (σ1 (a + 1) (6 * r + 3 + j))) (a + 1) (6 * r + 3 + j) (σ1 (a + 1) (6 * r + 3 + i))) : yRg σ2 a r (yrs (yrs R i (zpk j R)) j (zpk i R)) := by
  obtain ⟨p1, p2⟩ := yRg_pk t hi
  obtain ⟨q1, q2⟩ := yRg_pk t hj
  have x1 : ∀ k, k ≠ 6 * r + i → k ≠ 6 * r + j → σ1 (a + 1) k = σ (a + 1) k := fun k h g => by rw [e1, zup_f (by omega), zup_f (by omega)]
  have x2 : ∀ k, k ≠ 6 * r + 3 + i → k ≠ 6 * r + 3 + j → σ2 (a + 1) k = σ1 (a + 1) k := fun k h g => by rw [e2, zup_f (by omega), zup_f (by omega)]
  have y1 : σ2 (a + 1) (6 * r + i) = (zpk j R).1 := by rw [x2 _ (by omega) (by omega), e1, zup_f (by omega), zup_t ⟨rfl, rfl, ha⟩, q1]
  have y2 : σ2 (a + 1) (6 * r + j) = (zpk i R).1 := by rw [x2 _ (by omega) (by omega), e1, zup_t ⟨rfl, rfl, ha⟩, p1]
  have y3 : σ2 (a + 1) (6 * r + 3 + i) = (zpk j R).2 := by rw [e2, zup_f (by omega), zup_t ⟨rfl, rfl, ha⟩, x1 _ (by omega) (by omega), q2]
  have y4 : σ2 (a + 1) (6 * r + 3 + j) = (zpk i R).2 := by rw [e2, zup_t ⟨rfl, rfl, ha⟩, x1 _ (by omega) (by omega), p2]
  have o : ∀ k : Int, 0 ≤ k → k < 3 → k ≠ i → k ≠ j → σ2 (a + 1) (6 * r + k) = (zpk k R).1 ∧ σ2 (a + 1) (6 * r + 3 + k) = (zpk k R).2 := by
    intro k k0 k1 ki kj
    obtain ⟨g1, g2⟩ := yRg_pk t ⟨k0, k1⟩
    exact ⟨by rw [x2 _ (by omega) (by omega), x1 _ (by omega) (by omega), g1], by rw [x2 _ (by omega) (by omega), x1 _ (by omega) (by omega), g2]⟩
  have z1 : ∀ k : Int, 0 ≤ k → k < 3 → σ2 (a + 1) (6 * r + k) = (zpk k (yrs (yrs R i (zpk j R)) j (zpk i R))).1 ∧ σ2 (a + 1) (6 * r + 3 + k) = (zpk k (yrs (yrs R i (zpk j R)) j (zpk i R))).2 := by
    have pk : ∀ (R : zrg) (k j : Int) (v : Int × Int), 0 ≤ k → k < 3 → zpk k (yrs R j v) = if k = j then v else zpk k R := by
      intro R k j v k0 k1
      have : k = 0 ∨ k = 1 ∨ k = 2 := by omega
      rcases this with rfl | rfl | rfl
      · show (if j = 0 then v else R.1) = if 0 = j then v else R.1
        simp only [@eq_comm Int j]
      · show (if j = 1 then v else R.2.1) = if 1 = j then v else R.2.1
        simp only [@eq_comm Int j]
      · show (if j = 2 then v else R.2.2) = if 2 = j then v else R.2.2
        simp only [@eq_comm Int j]
    intro k k0 k1
    rw [pk _ _ _ _ k0 k1, pk _ _ _ _ k0 k1]
    by_cases c : k = j
    · rw [if_pos c, c]; exact ⟨y2, y4⟩
    · rw [if_neg c]
      by_cases c' : k = i
      · rw [if_pos c', c']; exact ⟨y1, y3⟩
      · rw [if_neg c']; exact o k k0 k1 c' c
  have w0 := z1 0 (by decide) (by decide)
  have w1 := z1 1 (by decide) (by decide)
  have w2 := z1 2 (by decide) (by decide)
  rw [Int.add_zero, Int.add_zero] at w0
  rw [show 6 * r + 3 + 1 = 6 * r + 4 by omega] at w1
  rw [show 6 * r + 3 + 2 = 6 * r + 5 by omega] at w2
  exact ⟨w0, w1, w2⟩
theorem l_105 (w : zW) {d : Nat} {a : Int} (ha : a = 101 ∨ a = 184) {σ : zMem} {T N : Int → Int} {s r i k : Int} {R : zrg} (v : zV) (t : yTs σ T s) (hk : 12 ≤ k ∧ k ≤ 15) (eK : T (11 * s) = k) (eN : ∀ j, T (11 * s + 5 + j) = N j) (hN : zNV k N) (hr : 0 ≤ r ∧ r ≤ 5) (hi : 0 ≤ i ∧ i < 3)
    (hR : yRg σ a r R) (hb : yrb 429 R) :
    ∃ u7, zden w (d + 1) 105 10 [zA 9 3 a, zA 10 8 2, zI s, zI (6 * r), zI (6 * r + 6), zI k, zI i, v] [] σ
      = zden w (d + 1) 105 10 [zA 9 3 a, zA 10 8 2, zI s, zI (6 * r), zI (6 * r + 6), zI k, zI (i + 1), u7] [] (zup (zup σ (a + 1) (6 * r + 6 + i) ((zpk i R).1 - if k = 12 then N i else 0)) (a + 1) (6 * r + 9 + i) ((zpk i R).2 - if k = 12 then N i else 0)) := by
  obtain ⟨h1, -, -⟩ := yq_1 w ha
  obtain ⟨p1, p2⟩ := yRg_pk hR hi
  have b := ypk_b (a := i) hb
  have a0 : zar 0 (6 * r) i = 6 * r + i := by rw [za_0, zw32_i (by omega)]
  have a1 : zar 0 (zar 0 (6 * r) 3) i = 6 * r + 3 + i := by rw [za_0 (6 * r) 3, zw32_i (z := 6 * r + 3) (by omega), za_0, zw32_i (by omega)]
  have a2 : zar 0 i 1 = i + 1 := by rw [za_0, zw32_i (by omega)]
  have a3 : zar 0 (6 * r + 6) i = 6 * r + 6 + i := by rw [za_0, zw32_i (by omega)]
  have a4 : zar 0 (zar 0 (6 * r + 6) 3) i = 6 * r + 9 + i := by rw [za_0 (6 * r + 6) 3, zw32_i (z := 6 * r + 6 + 3) (by omega), za_0, zw32_i (by omega)]; omega
  rw [hX8_move_10, if_pos (by omega), a0, a1, a2, a3, a4, h1]
  by_cases c : k = 12
  · subst c
    have n : -40 ≤ N i ∧ N i ≤ 55 := hN i hi.1 hi.2
    rw [if_pos rfl, s_118 w d t hi.1 (by rw [eK]; exact hi.2), Option.bind_some]
    dsimp only
    rw [if_pos (by omega), if_pos (by omega), if_pos (by omega), if_pos (by omega), eN, zup_f (by omega), p1, p2, za_1, zw32_i (by omega), za_1, zw32_i (by omega), if_pos rfl]
    exact ⟨_, rfl⟩
  · rw [if_neg c, if_pos (by omega), if_pos (by omega), if_pos (by omega), if_pos (by omega), zup_f (by omega), p1, p2, za_1, zw32_i (by omega), za_1, zw32_i (by omega), if_neg c]
    exact ⟨_, rfl⟩
theorem s_105 (w : zW) {d : Nat} (hd : 2 ≤ d) {a : Int} (ha : a = 101 ∨ a = 184) {σ : zMem} {T N : Int → Int} {s r k : Int} {R : zrg} (t : yTs σ T s) (hk : 12 ≤ k ∧ k ≤ 15) (eK : T (11 * s) = k) (eN : ∀ j, T (11 * s + 5 + j) = N j) (hN : zNV k N) (hr : 0 ≤ r ∧ r ≤ 5)
    (hR : yRg σ a r R) (hb : yrb 429 R) :
    ∃ σ', zcall w d 105 [zA 9 3 a, zA 10 8 2, zI s, zI (6 * r)] σ = some (0, σ') ∧ yRg σ' a (r + 1) (zmvr k (N 0) (N 1) (N 2) R) ∧ ∀ c j, (c ≠ a + 1 ∨ j < 6 * r + 6) → σ' c j = σ c j := by
  obtain ⟨d, rfl⟩ : ∃ e, d = e + 1 := ⟨d - 1, by omega⟩
  have hn : ∀ j : Int, j = 0 ∨ j = 1 → j < zno (T (11 * s)) := by
    intro j hj
    rw [eK]
    have : k = 12 ∨ k = 13 ∨ k = 14 ∨ k = 15 := by omega
    rcases this with rfl | rfl | rfl | rfl <;> rcases hj with rfl | rfl <;> decide
  have a6 : zar 0 (6 * r) 6 = 6 * r + 6 := by rw [za_0, zw32_i (by omega)]
  have ae : a + 1 < 3 ∨ 9 < a + 1 := by omega
  have fr : ∀ (σ1 : zMem) (i u v : Int), 0 ≤ i → ∀ c j, (c ≠ a + 1 ∨ j < 6 * r + 6) → zup (zup σ1 (a + 1) (6 * r + 6 + i) u) (a + 1) (6 * r + 9 + i) v c j = σ1 c j := fun σ1 i u v i0 c j h => by rw [zup_f (by omega), zup_f (by omega)]
  rw [eX8_move, s_112 w d t, Option.bind_some]
  dsimp only
  rw [a6, eK]
  obtain ⟨u1, e1⟩ := l_105 w (d := d) ha zU t hk eK eN hN hr (i := 0) (by decide) hR hb
  rw [e1]
  generalize hσ1 : zup (zup σ (a + 1) (6 * r + 6 + 0) ((zpk 0 R).1 - if k = 12 then N 0 else 0)) (a + 1) (6 * r + 9 + 0) ((zpk 0 R).2 - if k = 12 then N 0 else 0) = σ1
  have f1 : ∀ c j, (c ≠ a + 1 ∨ j < 6 * r + 6) → σ1 c j = σ c j := fun c j h => by rw [← hσ1]; exact fr σ 0 _ _ (by decide) c j h
  have t1 : yTs σ1 T s := yTs_c (fun c j g1 g2 => f1 c j (by omega)) t
  have R1 : yRg σ1 a r R := yRg_c (fun j _ h => f1 _ j (by omega)) hR
  obtain ⟨u2, e2⟩ := l_105 w (d := d) ha u1 t1 hk eK eN hN hr (i := 1) (by decide) R1 hb
  rw [show (0 : Int) + 1 = 1 from rfl, e2]
  generalize hσ2 : zup (zup σ1 (a + 1) (6 * r + 6 + 1) ((zpk 1 R).1 - if k = 12 then N 1 else 0)) (a + 1) (6 * r + 9 + 1) ((zpk 1 R).2 - if k = 12 then N 1 else 0) = σ2
  have f2 : ∀ c j, (c ≠ a + 1 ∨ j < 6 * r + 6) → σ2 c j = σ1 c j := fun c j h => by rw [← hσ2]; exact fr σ1 1 _ _ (by decide) c j h
  have t2 : yTs σ2 T s := yTs_c (fun c j g1 g2 => f2 c j (by omega)) t1
  have R2 : yRg σ2 a r R := yRg_c (fun j _ h => f2 _ j (by omega)) R1
  obtain ⟨u3, e3⟩ := l_105 w (d := d) ha u2 t2 hk eK eN hN hr (i := 2) (by decide) R2 hb
  rw [show (1 : Int) + 1 = 2 from rfl, e3]
  generalize hσ3 : zup (zup σ2 (a + 1) (6 * r + 6 + 2) ((zpk 2 R).1 - if k = 12 then N 2 else 0)) (a + 1) (6 * r + 9 + 2) ((zpk 2 R).2 - if k = 12 then N 2 else 0) = σ3
  have f3 : ∀ c j, (c ≠ a + 1 ∨ j < 6 * r + 6) → σ3 c j = σ2 c j := fun c j h => by rw [← hσ3]; exact fr σ2 2 _ _ (by decide) c j h
  have t3 : yTs σ3 T s := yTs_c (fun c j g1 g2 => f3 c j (by omega)) t2
  have F3 : ∀ c j, (c ≠ a + 1 ∨ j < 6 * r + 6) → σ3 c j = σ c j := fun c j h => (f3 c j h).trans ((f2 c j h).trans (f1 c j h))
  have ha0 : a + 1 ≠ 0 := by omega
  have R3 : yRg σ3 a (r + 1) (((zpk 0 R).1 - (if k = 12 then N 0 else 0), (zpk 0 R).2 - (if k = 12 then N 0 else 0)), ((zpk 1 R).1 - (if k = 12 then N 1 else 0), (zpk 1 R).2 - (if k = 12 then N 1 else 0)), ((zpk 2 R).1 - (if k = 12 then N 2 else 0), (zpk 2 R).2 - (if k = 12 then N 2 else 0))) := by
    refine ⟨⟨?_, ?_⟩, ⟨?_, ?_⟩, ?_, ?_⟩
    · rw [← hσ3, zup_f (by omega), zup_f (by omega), ← hσ2, zup_f (by omega), zup_f (by omega), ← hσ1, zup_f (by omega), zup_t ⟨rfl, by omega, ha0⟩]
    · rw [← hσ3, zup_f (by omega), zup_f (by omega), ← hσ2, zup_f (by omega), zup_f (by omega), ← hσ1, zup_t ⟨rfl, by omega, ha0⟩]
    · rw [← hσ3, zup_f (by omega), zup_f (by omega), ← hσ2, zup_f (by omega), zup_t ⟨rfl, by omega, ha0⟩]
    · rw [← hσ3, zup_f (by omega), zup_f (by omega), ← hσ2, zup_t ⟨rfl, by omega, ha0⟩]
    · rw [← hσ3, zup_f (by omega), zup_t ⟨rfl, by omega, ha0⟩]
    · rw [← hσ3, zup_t ⟨rfl, by omega, ha0⟩]
  have z0 : zpk 0 R = R.1 := rfl
  have z1 : zpk 1 R = R.2.1 := rfl
  have z2 : zpk 2 R = R.2.2 := rfl
  rw [z0, z1, z2] at R3
  have q0 := s_118 w d (k := 0) t3 (by decide) (hn 0 (Or.inl rfl))
  have q1 := s_118 w d (k := 1) t3 (by decide) (hn 1 (Or.inr rfl))
  rw [eN] at q0 q1
  rw [show (2 : Int) + 1 = 3 from rfl, hX8_move_10, if_neg (by decide), q0, Option.bind_some]
  dsimp only
  rw [q1, Option.bind_some]
  dsimp only
  have a9 : ∀ j : Int, 0 ≤ j → j < 3 → zar 0 (6 * r + 6) j = 6 * (r + 1) + j := fun j j0 j1 => by rw [za_0, zw32_i (by omega)]; omega
  have a10 : ∀ j : Int, 0 ≤ j → j < 3 → zar 0 (zar 0 (6 * r + 6) 3) j = 6 * (r + 1) + 3 + j := fun j j0 j1 => by rw [za_0 (6 * r + 6) 3, zw32_i (z := 6 * r + 6 + 3) (by omega), za_0, zw32_i (by omega)]; omega
  have fin : ∀ σ4 : zMem, (∀ c j, (c ≠ a + 1 ∨ j < 6 * (r + 1)) → σ4 c j = σ3 c j) → ∀ c j, (c ≠ a + 1 ∨ j < 6 * r + 6) → σ4 c j = σ c j := fun σ4 h c j g => (h c j (by omega)).trans (F3 c j g)
  have : k = 12 ∨ k = 13 ∨ k = 14 ∨ k = 15 := by omega
  rcases this with rfl | rfl | rfl | rfl
  · rw [if_neg (by decide), if_neg (by decide), if_neg (by decide)]
    rw [if_pos rfl, if_pos rfl, if_pos rfl] at R3
    refine ⟨σ3, rfl, ?_, F3⟩
    rw [zmvr, if_pos rfl]
    exact R3
  · have v := yV13 hN
    rw [if_neg (by decide), if_neg (by decide), if_neg (by decide), Int.sub_zero, Int.sub_zero, Int.sub_zero, Int.sub_zero, Int.sub_zero, Int.sub_zero] at R3
    obtain ⟨σ4, e4, R4, f4⟩ := s_106 w (d := d) (by omega) ha (r := r + 1) (i := N 0) (m := N 1) (by omega) (by omega) v.2 R3 (yrb_i (by omega) hb)
    rw [if_pos rfl, s_203, Option.bind_some]
    dsimp only
    rw [zt_if, if_pos (by omega), a9 _ (by omega) (by omega), e4]
    refine ⟨σ4, rfl, ?_, fin σ4 f4⟩
    rw [zmvr, if_neg (by decide), if_pos rfl]
    have : N 0 = 0 ∨ N 0 = 1 ∨ N 0 = 2 := by omega
    rcases this with e | e | e <;> rw [e] at R4 ⊢ <;> exact R4
  · have v := yV14 hN
    rw [if_neg (by decide), if_neg (by decide), if_neg (by decide), Int.sub_zero, Int.sub_zero, Int.sub_zero, Int.sub_zero, Int.sub_zero, Int.sub_zero] at R3
    obtain ⟨σ4, e4, R4, f4⟩ := s_107 w (d := d) (by omega) ha (r := r + 1) (i := N 0) (m := N 1) (by omega) (by omega) v.2 R3 (yrb_i (by omega) hb)
    rw [if_neg (by decide), if_pos rfl, s_203, Option.bind_some]
    dsimp only
    rw [zt_if, if_pos (by omega), a9 _ (by omega) (by omega), e4]
    refine ⟨σ4, rfl, ?_, fin σ4 f4⟩
    rw [zmvr, if_neg (by decide), if_neg (by decide), if_pos rfl]
    have : N 0 = 0 ∨ N 0 = 1 ∨ N 0 = 2 := by omega
    rcases this with e | e | e <;> rw [e] at R4 ⊢ <;> exact R4
  · obtain ⟨v0, v1, v2⟩ := yV15 hN
    rw [if_neg (by decide), if_neg (by decide), if_neg (by decide), Int.sub_zero, Int.sub_zero, Int.sub_zero, Int.sub_zero, Int.sub_zero, Int.sub_zero] at R3
    rw [if_neg (by decide), if_neg (by decide), if_pos rfl, s_203, Option.bind_some]
    dsimp only
    rw [zt_if, if_pos (by omega), s_203, Option.bind_some]
    dsimp only
    rw [zt_if, if_pos (by omega), a9 _ (by omega) (by omega), a9 _ (by omega) (by omega), a10 _ (by omega) (by omega), a10 _ (by omega) (by omega), s_108 w d ha (by omega) (by omega), Option.bind_some]
    dsimp only
    rw [s_108 w d ha (by omega) (by omega), Option.bind_some]
    have R4 := yRg_t ha0 (i := N 0) (j := N 1) (by omega) (by omega) (by omega) R3 rfl rfl
    refine ⟨_, rfl, ?_, fin _ (fun c j h => (zup_f (by omega)).trans ((zup_f (by omega)).trans ((zup_f (by omega)).trans (zup_f (by omega)))))⟩
    rw [zmvr, if_neg (by decide), if_neg (by decide), if_neg (by decide), if_pos rfl]
    have c0 : N 0 = 0 ∨ N 0 = 1 ∨ N 0 = 2 := by omega
    have c1 : N 1 = 0 ∨ N 1 = 1 ∨ N 1 = 2 := by omega
    rcases c0 with e | e | e <;> rcases c1 with g | g | g <;> (first | (exfalso; omega) | skip) <;> rw [e, g] at R4 ⊢ <;> exact R4
end
