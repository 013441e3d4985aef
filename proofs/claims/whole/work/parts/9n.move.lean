section
/-! The class' worths: points that move, pairs, and a shape's worth at a point -/
/-- what a change makes of number i of a point P -/
def ymi (k : Int) (N P : Int → Int) (i : Int) : Int :=
  if k = 12 then P i - N i else if k = 13 then (if i = N 0 then P i % N 1 else P i) else if k = 14 then (if i = N 0 ∧ N 1 < P i then 2 * N 1 - P i else P i)
  else (if i = N 0 then P (N 1) else if i = N 1 then P (N 0) else P i)
theorem l_47 (w : zW) {d : Nat} (hd : 2 ≤ d) {a : Int} (ha : a = 90 ∨ a = 173) {σ : zMem} {T N P : Int → Int} {s r i k : Int} {v : zV} (t : yTs σ T s) (hk : 12 ≤ k ∧ k ≤ 15) (eK : T (11 * s) = k) (eN : ∀ j, T (11 * s + 5 + j) = N j) (hN : zNV k N) (hr : 0 ≤ r ∧ r ≤ 6) (hi : 0 ≤ i ∧ i < 3)
    (hP : ∀ j : Int, 0 ≤ j → j < 3 → σ (a + 1) (3 * r + j) = P j) (bP : ∀ j : Int, 0 ≤ j → j < 3 → -429 ≤ P j ∧ P j ≤ 429) :
    zden w (d + 1) 47 20 [zA 5 2 a, zA 10 8 2, zI s, zI (3 * r), zI (3 * r + 3), zI k, zI (N 0), zI (N 1), zI i, v] [] σ
      = zden w (d + 1) 47 20 [zA 5 2 a, zA 10 8 2, zI s, zI (3 * r), zI (3 * r + 3), zI k, zI (N 0), zI (N 1), zI (i + 1), zI (ymi k N P i)] [] (zup σ (a + 1) (3 * r + 3 + i) (ymi k N P i)) := by
  obtain ⟨h1, -⟩ := yr_1 w ha
  have a0 : zar 0 (3 * r) i = 3 * r + i := by rw [za_0, zw32_i (by omega)]
  have a1 : zar 0 (3 * r + 3) i = 3 * r + 3 + i := by rw [za_0, zw32_i (by omega)]
  have a2 : zar 0 i 1 = i + 1 := by rw [za_0, zw32_i (by omega)]
  have f96 : ∀ u : Int, zden w (d + 1) 47 96 [zA 5 2 a, zA 10 8 2, zI s, zI (3 * r), zI (3 * r + 3), zI k, zI (N 0), zI (N 1), zI i, zI u] [] σ
      = zden w (d + 1) 47 20 [zA 5 2 a, zA 10 8 2, zI s, zI (3 * r), zI (3 * r + 3), zI k, zI (N 0), zI (N 1), zI (i + 1), zI u] [] (zup σ (a + 1) (3 * r + 3 + i) u) := by
    intro u
    rw [hX4_move_96, a1, a2, if_pos (by omega), h1]
  have b := bP i hi.1 hi.2
  rw [hX4_move_20, if_pos (by omega), a0, if_pos (by omega), h1, hP i hi.1 hi.2]
  have : k = 12 ∨ k = 13 ∨ k = 14 ∨ k = 15 := by omega
  rcases this with rfl | rfl | rfl | rfl
  · have c : -40 ≤ N i ∧ N i ≤ 55 := hN i hi.1 hi.2
    rw [if_pos rfl, s_118 w d t hi.1 (by rw [eK]; exact hi.2), Option.bind_some]
    dsimp only
    rw [eN, f96, za_1, zw32_i (by omega), ymi, if_pos rfl]
  · have c := yV13 hN
    rw [if_neg (by decide), if_pos rfl]
    by_cases g : i = N 0
    · rw [if_pos g, if_pos (by omega), s_339 w d ⟨by omega, by omega⟩ (by omega), Option.bind_some]
      dsimp only
      rw [f96, ymi, if_neg (by decide), if_pos rfl, if_pos g]
    · rw [if_neg g, hX4_move_54, if_neg (by decide), hX4_move_70, if_neg (by decide), f96, ymi, if_neg (by decide), if_pos rfl, if_neg g]
  · have c := yV14 hN
    rw [if_neg (by decide), if_neg (by decide), hX4_move_54, if_pos rfl]
    by_cases g : i = N 0
    · rw [if_pos g]
      by_cases e : N 1 < P i
      · rw [if_pos e, f96, za_2, zw32_i (by omega), za_1, zw32_i (by omega), ymi, if_neg (by decide), if_neg (by decide), if_pos rfl, if_pos ⟨g, e⟩]
      · rw [if_neg e, hX4_move_70, if_neg (by decide), f96, ymi, if_neg (by decide), if_neg (by decide), if_pos rfl, if_neg (fun u => e u.2)]
    · rw [if_neg g, hX4_move_70, if_neg (by decide), f96, ymi, if_neg (by decide), if_neg (by decide), if_pos rfl, if_neg (fun u => g u.1)]
  · obtain ⟨c0, c1, c2⟩ := yV15 hN
    have f93 : ∀ j : Int, 0 ≤ j → j < 3 → zden w (d + 1) 47 93 [zA 5 2 a, zA 10 8 2, zI s, zI (3 * r), zI (3 * r + 3), zI 15, zI (N 0), zI (N 1), zI i, zI (P i)] [zI j, zI (3 * r), zA 20 24 (a + 1)] σ
        = zden w (d + 1) 47 20 [zA 5 2 a, zA 10 8 2, zI s, zI (3 * r), zI (3 * r + 3), zI 15, zI (N 0), zI (N 1), zI (i + 1), zI (P j)] [] (zup σ (a + 1) (3 * r + 3 + i) (P j)) := by
      intro j j0 j1
      have a3 : zar 0 (3 * r) j = 3 * r + j := by rw [za_0, zw32_i (by omega)]
      rw [hX4_move_93, a3, if_pos (by omega), hP j j0 j1, f96]
    rw [if_neg (by decide), if_neg (by decide), hX4_move_54, if_neg (by decide), hX4_move_70, if_pos rfl, s_203, Option.bind_some]
    dsimp only
    rw [zt_if, if_pos (by omega), s_203, Option.bind_some]
    dsimp only
    have eY : ymi 15 N P i = (if i = N 0 then P (N 1) else if i = N 1 then P (N 0) else P i) := by rw [ymi, if_neg (by decide), if_neg (by decide), if_neg (by decide)]
    rw [zt_if, if_pos (by omega), eY]
    by_cases g : i = N 0
    · rw [if_pos g, if_pos g, h1, f93 _ (by omega) (by omega)]
    · rw [if_neg g, if_neg g]
      by_cases e : i = N 1
      · rw [if_pos e, if_pos e, h1, f93 _ (by omega) (by omega)]
      · rw [if_neg e, if_neg e, h1, f93 _ (by omega) (by omega)]
theorem s_47 (w : zW) {d : Nat} (hd : 3 ≤ d) {a : Int} (ha : a = 90 ∨ a = 173) {σ : zMem} {T N : Int → Int} {s r x y z k : Int} (t : yTs σ T s) (hk : 12 ≤ k ∧ k ≤ 15) (eK : T (11 * s) = k) (eN : ∀ j, T (11 * s + 5 + j) = N j) (hN : zNV k N) (hr : 0 ≤ r ∧ r ≤ 5)
    (eX : σ (a + 1) (3 * r) = x) (eY : σ (a + 1) (3 * r + 1) = y) (eZ : σ (a + 1) (3 * r + 2) = z) (hx : -429 ≤ x ∧ x ≤ 429) (hy : -429 ≤ y ∧ y ≤ 429) (hz : -429 ≤ z ∧ z ≤ 429) :
    ∃ σ', zcall w d 47 [zA 5 2 a, zA 10 8 2, zI s, zI (3 * r)] σ = some (0, σ') ∧ σ' (a + 1) (3 * r + 3) = (zmv k (N 0) (N 1) (N 2) x y z).1 ∧ σ' (a + 1) (3 * r + 4) = (zmv k (N 0) (N 1) (N 2) x y z).2.1 ∧ σ' (a + 1) (3 * r + 5) = (zmv k (N 0) (N 1) (N 2) x y z).2.2
      ∧ ∀ c j, (c ≠ a + 1 ∨ j < 3 * r + 3) → σ' c j = σ c j := by
  obtain ⟨d, rfl⟩ : ∃ e, d = e + 1 := ⟨d - 1, by omega⟩
  have hn : ∀ j : Int, j = 0 ∨ j = 1 → j < zno (T (11 * s)) := by
    intro j hj
    rw [eK]
    have : k = 12 ∨ k = 13 ∨ k = 14 ∨ k = 15 := by omega
    rcases this with rfl | rfl | rfl | rfl <;> rcases hj with rfl | rfl <;> decide
  obtain ⟨P, hP⟩ : ∃ P : Int → Int, P = fun j => zpick j x y z := ⟨_, rfl⟩
  have p0 : P 0 = x := by rw [hP]; rfl
  have p1 : P 1 = y := by rw [hP]; rfl
  have p2 : P 2 = z := by rw [hP]; rfl
  have bP : ∀ j : Int, 0 ≤ j → j < 3 → -429 ≤ P j ∧ P j ≤ 429 := fun j _ _ => by rw [hP]; exact ypick_b hx hy hz
  have rd : ∀ σ2 : zMem, (∀ j : Int, j < 3 * r + 3 → σ2 (a + 1) j = σ (a + 1) j) → ∀ j : Int, 0 ≤ j → j < 3 → σ2 (a + 1) (3 * r + j) = P j := by
    intro σ2 h j j0 j1
    rw [h _ (by omega)]
    have : j = 0 ∨ j = 1 ∨ j = 2 := by omega
    rcases this with rfl | rfl | rfl
    · rw [p0, Int.add_zero]; exact eX
    · rw [p1]; exact eY
    · rw [p2]; exact eZ
  have ae : a + 1 < 3 ∨ 9 < a + 1 := by omega
  have a3 : zar 0 (3 * r) 3 = 3 * r + 3 := by rw [za_0, zw32_i (by omega)]
  have q0 := s_118 w d (k := 0) t (by decide) (hn 0 (Or.inl rfl))
  have q1 := s_118 w d (k := 1) t (by decide) (hn 1 (Or.inr rfl))
  rw [eN] at q0 q1
  rw [eX4_move, s_112 w d t, Option.bind_some]
  dsimp only
  rw [q0, Option.bind_some]
  dsimp only
  rw [q1, Option.bind_some]
  dsimp only
  have t1 : ∀ (σ2 : zMem) (u v : Int), yTs σ2 T s → yTs (zup σ2 (a + 1) u v) T s := fun σ2 u v h => yTs_c (fun c j g1 g2 => zup_f (Or.inl (by omega))) h
  have m0 : ∀ j : Int, 0 ≤ j → j < 3 → σ (a + 1) (3 * r + j) = P j := rd σ (fun j _ => rfl)
  have m1 : ∀ (u v : Int) (σ2 : zMem), (∀ j : Int, j < 3 * r + 3 → σ2 (a + 1) j = σ (a + 1) j) → 3 * r + 3 ≤ u → ∀ j : Int, j < 3 * r + 3 → zup σ2 (a + 1) u v (a + 1) j = σ (a + 1) j := fun u v σ2 h hu j hj => (zup_f (Or.inr (by omega))).trans (h j hj)
  have k1 := m1 (3 * r + 3 + 0) (ymi k N P 0) σ (fun _ _ => rfl) (by omega)
  have k2 := m1 (3 * r + 3 + 1) (ymi k N P 1) _ k1 (by omega)
  have z1 : (0 : Int) + 1 = 1 := rfl
  have z2 : (1 : Int) + 1 = 2 := rfl
  have z3 : (2 : Int) + 1 = 3 := rfl
  rw [a3, eK, l_47 w (by omega) ha (i := 0) t hk eK eN hN (by omega) (by decide) m0 bP, z1,
    l_47 w (by omega) ha (i := 1) (t1 _ _ _ t) hk eK eN hN (by omega) (by decide) (rd _ k1) bP, z2,
    l_47 w (by omega) ha (i := 2) (t1 _ _ _ (t1 _ _ _ t)) hk eK eN hN (by omega) (by decide) (rd _ k2) bP, z3, hX4_move_20, if_neg (by decide)]
  have e0 : ymi k N P 0 = (zmv k (N 0) (N 1) (N 2) x y z).1 ∧ ymi k N P 1 = (zmv k (N 0) (N 1) (N 2) x y z).2.1 ∧ ymi k N P 2 = (zmv k (N 0) (N 1) (N 2) x y z).2.2 := by
    have : k = 12 ∨ k = 13 ∨ k = 14 ∨ k = 15 := by omega
    rcases this with rfl | rfl | rfl | rfl
    · have q : ∀ i, ymi 12 N P i = P i - N i := fun i => by rw [ymi, if_pos rfl]
      rw [q, q, q, zmv, if_pos rfl, p0, p1, p2]; exact ⟨rfl, rfl, rfl⟩
    · have q : ∀ i, ymi 13 N P i = if N 0 = i then P i % N 1 else P i := fun i => by rw [ymi, if_neg (by decide), if_pos rfl]; simp only [@eq_comm Int i]
      have u : zmv 13 (N 0) (N 1) (N 2) x y z = (if N 0 = 0 then x % N 1 else x, if N 0 = 1 then y % N 1 else y, if N 0 = 2 then z % N 1 else z) := by rw [zmv, if_neg (by decide), if_pos rfl]
      rw [q, q, q, u, p0, p1, p2]
      exact ⟨rfl, rfl, rfl⟩
    · have q : ∀ i, ymi 14 N P i = if N 0 = i ∧ N 1 < P i then 2 * N 1 - P i else P i := fun i => by rw [ymi, if_neg (by decide), if_neg (by decide), if_pos rfl]; simp only [@eq_comm Int i]
      have u : zmv 14 (N 0) (N 1) (N 2) x y z = (if N 0 = 0 ∧ N 1 < x then 2 * N 1 - x else x, if N 0 = 1 ∧ N 1 < y then 2 * N 1 - y else y, if N 0 = 2 ∧ N 1 < z then 2 * N 1 - z else z) := by rw [zmv, if_neg (by decide), if_neg (by decide), if_pos rfl]
      rw [q, q, q, u, p0, p1, p2]
      exact ⟨rfl, rfl, rfl⟩
    · have pk : ∀ j, P j = zpick j x y z := fun j => by rw [hP]
      have q : ∀ i, ymi 15 N P i = if N 0 = i then P (N 1) else if N 1 = i then P (N 0) else P i := fun i => by rw [ymi, if_neg (by decide), if_neg (by decide), if_neg (by decide)]; simp only [@eq_comm Int i]
      have u : zmv 15 (N 0) (N 1) (N 2) x y z = (if N 0 = 0 then zpick (N 1) x y z else if N 1 = 0 then zpick (N 0) x y z else x, if N 0 = 1 then zpick (N 1) x y z else if N 1 = 1 then zpick (N 0) x y z else y, if N 0 = 2 then zpick (N 1) x y z else if N 1 = 2 then zpick (N 0) x y z else z) := by rw [zmv, if_neg (by decide), if_neg (by decide), if_neg (by decide), if_pos rfl]
      rw [q, q, q, u, p0, p1, p2, pk (N 0), pk (N 1)]
      exact ⟨rfl, rfl, rfl⟩
  refine ⟨_, rfl, ?_, ?_, ?_, fun c j h => ?_⟩
  · rw [zup_f (by omega), zup_f (by omega), zup_t ⟨rfl, by omega, by omega⟩, e0.1]
  · rw [zup_f (by omega), zup_t ⟨rfl, by omega, by omega⟩, e0.2.1]
  · rw [zup_t ⟨rfl, by omega, by omega⟩, e0.2.2]
  · rw [zup_f (by omega), zup_f (by omega), zup_f (by omega)]
end
