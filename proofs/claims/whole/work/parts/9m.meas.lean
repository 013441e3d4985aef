section
/-! The class' worths -/
theorem yr_1 (w : zW) {a : Int} (ha : a = 90 ∨ a = 173) : zR w a 0 = a + 1 ∧ zR w a 1 = a + 2 := by
  rcases ha with rfl | rfl <;> exact ⟨rfl, rfl⟩
theorem yr_2 (w : zW) {a l : Int} (ha : a = 90 ∨ a = 173) (h : 0 ≤ l ∧ l < 8) : zR w (a + 2) l = a + 3 + l := by
  have : l = 0 ∨ l = 1 ∨ l = 2 ∨ l = 3 ∨ l = 4 ∨ l = 5 ∨ l = 6 ∨ l = 7 := by omega
  rcases ha with rfl | rfl <;> rcases this with rfl | rfl | rfl | rfl | rfl | rfl | rfl | rfl <;> rfl

def yTs (σ : zMem) (T : Int → Int) (s : Int) : Prop := (0 ≤ s ∧ s < 24) ∧ σ 3 s = T (11 * s) ∧ σ 4 s = T (11 * s + 1) ∧ σ 5 s = T (11 * s + 2) ∧ ∀ k : Int, 0 ≤ k → k < zno (T (11 * s)) → σ 9 (6 * s + k) = T (11 * s + 5 + k)
theorem yTs_i {σ : zMem} {T : Int → Int} {n s : Int} (h : zTb 2 σ T n) (hn : n ≤ 24) (h0 : 0 ≤ s) (h1 : s < n) : yTs σ T s := by
  have t := h.2 s h0 h1
  exact ⟨by omega, t.1, t.2.1, t.2.2.1, t.2.2.2.2.2.2⟩
theorem yTs_c {σ σ' : zMem} {T : Int → Int} {s : Int} (h : ∀ a k, 3 ≤ a → a ≤ 9 → σ' a k = σ a k) (t : yTs σ T s) : yTs σ' T s :=
  ⟨t.1, (h _ _ (by decide) (by decide)).trans t.2.1, (h _ _ (by decide) (by decide)).trans t.2.2.1, (h _ _ (by decide) (by decide)).trans t.2.2.2.1, fun k a b => (h _ _ (by decide) (by decide)).trans (t.2.2.2.2 k a b)⟩
theorem s_112 (w : zW) (d : Nat) {σ : zMem} {T : Int → Int} {s : Int} (t : yTs σ T s) : zcall w d 112 [zA 10 8 2, zI s] σ = some (T (11 * s), σ) := by
  have := t.1
  rw [eX9_kindOf, if_neg (by omega), if_pos (by omega), if_pos (by omega), ← t.2.1]
  rfl
theorem s_113 (w : zW) (d : Nat) {σ : zMem} {T : Int → Int} {s : Int} (t : yTs σ T s) : zcall w d 113 [zA 10 8 2, zI s] σ = some (T (11 * s + 1), σ) := by
  have := t.1
  rw [eX9_firstOf, if_neg (by omega), if_pos (by omega), if_pos (by omega), ← t.2.2.1]
  rfl
theorem s_114 (w : zW) (d : Nat) {σ : zMem} {T : Int → Int} {s : Int} (t : yTs σ T s) : zcall w d 114 [zA 10 8 2, zI s] σ = some (T (11 * s + 2), σ) := by
  have := t.1
  rw [eX9_secondOf, if_neg (by omega), if_pos (by omega), if_pos (by omega), ← t.2.2.2.1]
  rfl
theorem zno_b6 (k : Int) : zno k ≤ 6 := by
  unfold zno
  (repeat' split) <;> omega
theorem s_118 (w : zW) (d : Nat) {σ : zMem} {T : Int → Int} {s k : Int} (t : yTs σ T s) (h0 : 0 ≤ k) (hk : k < zno (T (11 * s))) : zcall w d 118 [zA 10 8 2, zI s, zI k] σ = some (T (11 * s + 5 + k), σ) := by
  have := t.1
  have := zno_b6 (T (11 * s))
  rw [eX9_numberOf, if_neg (by omega), if_pos (by omega), if_neg (by omega), if_pos (by omega), za_2, zw32_i (by omega), za_0, zw32_i (by omega), if_pos (by omega), ← t.2.2.2.2 k h0 hk, Int.mul_comm s 6]
  rfl
/-- the worth of a solid at the point of a row -/
theorem s_44 (w : zW) {d : Nat} (hd : 2 ≤ d) {a : Int} (ha : a = 90 ∨ a = 173) {σ : zMem} {T : Int → Int} {s r : Int} (t : yTs σ T s) (hk : 3 ≤ T (11 * s) ∧ T (11 * s) ≤ 5) (hN : zNV (T (11 * s)) (fun i => T (11 * s + 5 + i))) (hr : 0 ≤ r ∧ r ≤ 6)
    (hx : -429 ≤ σ (a + 1) (3 * r) ∧ σ (a + 1) (3 * r) ≤ 429) (hy : -429 ≤ σ (a + 1) (3 * r + 1) ∧ σ (a + 1) (3 * r + 1) ≤ 429) (hz : -429 ≤ σ (a + 1) (3 * r + 2) ∧ σ (a + 1) (3 * r + 2) ≤ 429) :
    zcall w d 44 [zA 5 2 a, zA 10 8 2, zI s, zI (T (11 * s)), zI (3 * r)] σ = some (zsd (T (11 * s)) (fun i => T (11 * s + 5 + i)) (σ (a + 1) (3 * r)) (σ (a + 1) (3 * r + 1)) (σ (a + 1) (3 * r + 2)), σ) := by
  obtain ⟨d, rfl⟩ : ∃ e, d = e + 1 := ⟨d - 1, by omega⟩
  obtain ⟨h1, -⟩ := yr_1 w ha
  have rd : ∀ i : Int, 0 ≤ i → i < 3 → σ (a + 1) (3 * r + i) = zpick i (σ (a + 1) (3 * r)) (σ (a + 1) (3 * r + 1)) (σ (a + 1) (3 * r + 2)) := by
    intro i i0 i1
    have : i = 0 ∨ i = 1 ∨ i = 2 := by omega
    rcases this with rfl | rfl | rfl
    · rw [Int.add_zero]; rfl
    · rfl
    · rfl
  generalize σ (a + 1) (3 * r) = x at *
  generalize σ (a + 1) (3 * r + 1) = y at *
  generalize σ (a + 1) (3 * r + 2) = z at *
  have en := fun k h0 h => s_118 w d (k := k) t h0 h
  generalize T (11 * s) = k at *
  have hn : ∀ j, T (11 * s + 5 + j) = (fun i => T (11 * s + 5 + i)) j := fun _ => rfl
  generalize (fun i => T (11 * s + 5 + i)) = N at *
  simp only [hn] at en
  have a0 : ∀ i : Int, 0 ≤ i → i < 3 → zar 0 (3 * r) i = 3 * r + i := fun i i0 i1 => by rw [za_0, zw32_i (by omega)]
  have a2 : ∀ i : Int, 0 ≤ i → i < 3 → zar 0 i 1 = i + 1 := fun i i0 i1 => by rw [za_0, zw32_i (by omega)]
  have a3 : ∀ i : Int, 0 ≤ i → i < 3 → zar 0 i 3 = i + 3 := fun i i0 i1 => by rw [za_0, zw32_i (by omega)]
  rw [eX4_ofSolid]
  have : k = 3 ∨ k = 4 ∨ k = 5 := by omega
  rcases this with rfl | rfl | rfl
  · have v := yV3 hN
    have q0 := ysq2 (a := x - N 0) (n := 484) (by omega)
    have q1 := ysq2 (a := y - N 1) (n := 484) (by omega)
    have q2 := ysq2 (a := z - N 2) (n := 484) (by omega)
    have q3 := ysq2 (a := N 3) (n := 40) (by omega)
    have st : ∀ (i x5 x6 : Int) (v8 v9 : zV), 0 ≤ i → i < 3 → (0 ≤ x5 ∧ x5 ≤ 1000000) → ∃ u8 u9, zden w (d + 1) 44 6 [zA 5 2 a, zA 10 8 2, zI s, zI 3, zI (3 * r), zI x5, zI x6, zI i, v8, v9] [] σ
        = zden w (d + 1) 44 6 [zA 5 2 a, zA 10 8 2, zI s, zI 3, zI (3 * r), zI (x5 + (zpick i x y z - N i) * (zpick i x y z - N i)), zI x6, zI (i + 1), u8, u9] [] σ := by
      intro i x5 x6 v8 v9 i0 i1 b5
      have p := ypick_b (a := i) hx hy hz
      have n : -40 ≤ N i ∧ N i ≤ 55 := by
        have : i = 0 ∨ i = 1 ∨ i = 2 := by omega
        rcases this with rfl | rfl | rfl <;> omega
      have q := ysq2 (a := zpick i x y z - N i) (n := 484) (by omega)
      rw [hX4_ofSolid_6, if_pos i1, a0 i i0 i1, if_pos (by omega), h1, rd i i0 i1, en i i0 (show i < 4 by omega), Option.bind_some]
      dsimp only
      rw [if_neg (by decide), if_pos rfl, a2 i i0 i1, za_1, zw32_i (by omega), za_2, zw32_i (by omega), za_0, zw32_i (by omega)]
      exact ⟨_, _, rfl⟩
    obtain ⟨_, _, e1⟩ := st 0 0 (-1000000000) zU zU (by decide) (by decide) (by decide)
    rw [e1, Int.zero_add, show (0 : Int) + 1 = 1 from rfl, show zpick 0 x y z = x from rfl]
    obtain ⟨_, _, e2⟩ := st 1 ((x - N 0) * (x - N 0)) (-1000000000) _ _ (by decide) (by decide) (by omega)
    rw [e2, show (1 : Int) + 1 = 2 from rfl, show zpick 1 x y z = y from rfl]
    obtain ⟨_, _, e3⟩ := st 2 ((x - N 0) * (x - N 0) + (y - N 1) * (y - N 1)) (-1000000000) _ _ (by decide) (by decide) (by omega)
    rw [e3, show (2 : Int) + 1 = 3 from rfl, show zpick 2 x y z = z from rfl, hX4_ofSolid_6, if_neg (by decide), en 3 (by decide) (by decide), Option.bind_some]
    dsimp only
    rw [if_neg (by decide), if_pos rfl, zsd, if_pos rfl, za_2, zw32_i (by omega), za_1, zw32_i (by omega)]
  · have v := yV4 hN
    have st : ∀ (i x5 x6 : Int) (v8 v9 : zV), 0 ≤ i → i < 3 → ∃ u8 u9, zden w (d + 1) 44 6 [zA 5 2 a, zA 10 8 2, zI s, zI 4, zI (3 * r), zI x5, zI x6, zI i, v8, v9] [] σ
        = zden w (d + 1) 44 6 [zA 5 2 a, zA 10 8 2, zI s, zI 4, zI (3 * r), zI x5, zI (max x6 (max (N i - zpick i x y z) (zpick i x y z - N (i + 3)))), zI (i + 1), u8, u9] [] σ := by
      intro i x5 x6 v8 v9 i0 i1
      have p := ypick_b (a := i) hx hy hz
      have n : (-40 ≤ N i ∧ N i ≤ 55) ∧ -40 ≤ N (i + 3) ∧ N (i + 3) ≤ 55 := by
        have : i = 0 ∨ i = 1 ∨ i = 2 := by omega
        rcases this with rfl | rfl | rfl
        · rw [show (0 : Int) + 3 = 3 from rfl]; omega
        · rw [show (1 : Int) + 3 = 4 from rfl]; omega
        · rw [show (2 : Int) + 3 = 5 from rfl]; omega
      rw [hX4_ofSolid_6, if_pos i1, a0 i i0 i1, if_pos (by omega), h1, rd i i0 i1, en i i0 (show i < 6 by omega), Option.bind_some]
      dsimp only
      rw [if_pos rfl, a3 i i0 i1, en (i + 3) (by omega) (show i + 3 < 6 by omega), Option.bind_some]
      dsimp only
      rw [s_341, Option.bind_some]
      dsimp only
      rw [s_341, Option.bind_some]
      dsimp only
      rw [a2 i i0 i1, za_1, zw32_i (by omega), za_1, zw32_i (by omega)]
      exact ⟨_, _, rfl⟩
    obtain ⟨_, _, e1⟩ := st 0 0 (-1000000000) zU zU (by decide) (by decide)
    rw [e1, show (0 : Int) + 1 = 1 from rfl, show zpick 0 x y z = x from rfl]
    obtain ⟨_, _, e2⟩ := st 1 _ _ _ _ (by decide) (by decide)
    rw [e2, show (1 : Int) + 1 = 2 from rfl, show zpick 1 x y z = y from rfl]
    obtain ⟨_, _, e3⟩ := st 2 _ _ _ _ (by decide) (by decide)
    rw [e3, show (2 : Int) + 1 = 3 from rfl, show zpick 2 x y z = z from rfl, hX4_ofSolid_6, if_neg (by decide), en 3 (by decide) (by decide), Option.bind_some]
    dsimp only
    rw [if_pos rfl, zsd, if_neg (by decide), if_pos rfl, show (0 : Int) + 3 = 3 from rfl, show (1 : Int) + 3 = 4 from rfl, show (2 : Int) + 3 = 5 from rfl]
    congr 2; omega
  · have v := yV5 hN
    have q0 := ypr9 v.1 hx
    have q1 := ypr9 v.2.1 hy
    have q2 := ypr9 v.2.2.1 hz
    have st : ∀ (i x5 x6 : Int) (v8 v9 : zV), 0 ≤ i → i < 3 → (-100000 ≤ x5 ∧ x5 ≤ 100000) → ∃ u8 u9, zden w (d + 1) 44 6 [zA 5 2 a, zA 10 8 2, zI s, zI 5, zI (3 * r), zI x5, zI x6, zI i, v8, v9] [] σ
        = zden w (d + 1) 44 6 [zA 5 2 a, zA 10 8 2, zI s, zI 5, zI (3 * r), zI (x5 + N i * zpick i x y z), zI x6, zI (i + 1), u8, u9] [] σ := by
      intro i x5 x6 v8 v9 i0 i1 b5
      have p := ypick_b (a := i) hx hy hz
      have n : -9 ≤ N i ∧ N i ≤ 9 := by
        have : i = 0 ∨ i = 1 ∨ i = 2 := by omega
        rcases this with rfl | rfl | rfl <;> omega
      have q := ypr9 n p
      rw [hX4_ofSolid_6, if_pos i1, a0 i i0 i1, if_pos (by omega), h1, rd i i0 i1, en i i0 (show i < 4 by omega), Option.bind_some]
      dsimp only
      rw [if_neg (by decide), if_neg (by decide), a2 i i0 i1, za_2, zw32_i (by omega), za_0, zw32_i (by omega)]
      exact ⟨_, _, rfl⟩
    obtain ⟨_, _, e1⟩ := st 0 0 (-1000000000) zU zU (by decide) (by decide) (by decide)
    rw [e1, Int.zero_add, show (0 : Int) + 1 = 1 from rfl, show zpick 0 x y z = x from rfl]
    obtain ⟨_, _, e2⟩ := st 1 (N 0 * x) (-1000000000) _ _ (by decide) (by decide) (by omega)
    rw [e2, show (1 : Int) + 1 = 2 from rfl, show zpick 1 x y z = y from rfl]
    obtain ⟨_, _, e3⟩ := st 2 (N 0 * x + N 1 * y) (-1000000000) _ _ (by decide) (by decide) (by omega)
    rw [e3, show (2 : Int) + 1 = 3 from rfl, show zpick 2 x y z = z from rfl, hX4_ofSolid_6, if_neg (by decide), en 3 (by decide) (by decide), Option.bind_some]
    dsimp only
    rw [if_neg (by decide), if_neg (by decide), zsd, if_neg (by decide), if_neg (by decide), za_1, zw32_i (by omega)]
end
