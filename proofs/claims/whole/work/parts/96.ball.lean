/-! A ball of places: the class' method -/
theorem ysq {a : Int} {n : Int} (h : -n ≤ a ∧ a ≤ n) : 0 ≤ a * a ∧ a * a ≤ n * n := by
  have hn : 0 ≤ n := by omega
  by_cases c : 0 ≤ a
  · exact ⟨Int.mul_nonneg c c, Int.mul_le_mul h.2 h.2 c hn⟩
  · rw [← Int.neg_mul_neg a a]
    exact ⟨Int.mul_nonneg (by omega) (by omega), Int.mul_le_mul (by omega) (by omega) (by omega) hn⟩
def yib (x y z r i j k : Int) : Prop := (i - x) * (i - x) + (j - y) * (j - y) + (k - z) * (k - z) ≤ r * r
theorem yib_z {x y z r i j k : Int} (hr : 0 ≤ r) (h : yib x y z r i j k) : (x - r ≤ i ∧ i ≤ x + r) ∧ (y - r ≤ j ∧ j ≤ y + r) ∧ z - r ≤ k ∧ k ≤ z + r := by
  have key : ∀ a : Int, a * a ≤ r * r → -r ≤ a ∧ a ≤ r := by
    intro a h
    refine ⟨?_, ?_⟩
    · apply Classical.byContradiction
      intro c
      have h1 : (r + 1) * (r + 1) ≤ (-a) * (-a) := Int.mul_le_mul (by omega) (by omega) (by omega) (by omega)
      rw [Int.neg_mul_neg, Int.add_mul, Int.mul_add] at h1
      omega
    · apply Classical.byContradiction
      intro c
      have h1 : (r + 1) * (r + 1) ≤ a * a := Int.mul_le_mul (by omega) (by omega) (by omega) (by omega)
      rw [Int.add_mul, Int.mul_add] at h1
      omega
  have n1 : 0 ≤ (i - x) * (i - x) := by
    by_cases c : 0 ≤ i - x
    · exact Int.mul_nonneg c c
    · rw [← Int.neg_mul_neg]; exact Int.mul_nonneg (by omega) (by omega)
  have n2 : 0 ≤ (j - y) * (j - y) := by
    by_cases c : 0 ≤ j - y
    · exact Int.mul_nonneg c c
    · rw [← Int.neg_mul_neg]; exact Int.mul_nonneg (by omega) (by omega)
  have n3 : 0 ≤ (k - z) * (k - z) := by
    by_cases c : 0 ≤ k - z
    · exact Int.mul_nonneg c c
    · rw [← Int.neg_mul_neg]; exact Int.mul_nonneg (by omega) (by omega)
  unfold yib at h
  have k1 := key (i - x) (by omega)
  have k2 := key (j - y) (by omega)
  have k3 := key (k - z) (by omega)
  omega
theorem yib_c {x y z r i j k : Int} (hx : 0 ≤ x ∧ x < 16) (hy : 0 ≤ y ∧ y < 16) (hz : 0 ≤ z ∧ z < 16) (hr : 0 ≤ r ∧ r < 6) (hi : 0 ≤ i ∧ i < 16) (hj : 0 ≤ j ∧ j < 16) (hk : 0 ≤ k ∧ k < 16) :
    zar 2 r r = r * r ∧ zar 0 (zar 0 (zar 2 (zar 1 i x) (zar 1 i x)) (zar 2 (zar 1 j y) (zar 1 j y))) (zar 2 (zar 1 k z) (zar 1 k z)) = (i - x) * (i - x) + (j - y) * (j - y) + (k - z) * (k - z) := by
  have q1 := ysq (a := i - x) (n := 15) (by omega)
  have q2 := ysq (a := j - y) (n := 15) (by omega)
  have q3 := ysq (a := k - z) (n := 15) (by omega)
  have q4 := ysq (a := r) (n := 15) (by omega)
  have e1 : zar 1 i x = i - x := by rw [za_1, zw32_i (by omega)]
  have e2 : zar 1 j y = j - y := by rw [za_1, zw32_i (by omega)]
  have e3 : zar 1 k z = k - z := by rw [za_1, zw32_i (by omega)]
  rw [e1, e2, e3, za_2, za_2, za_2, za_2, zw32_i (z := (i - x) * (i - x)) (by omega), zw32_i (z := (j - y) * (j - y)) (by omega), zw32_i (z := (k - z) * (k - z)) (by omega), zw32_i (z := r * r) (by omega)]
  rw [za_0, za_0, zw32_i (z := (i - x) * (i - x) + (j - y) * (j - y)) (by omega), zw32_i (by omega)]
  exact ⟨rfl, rfl⟩
theorem l_54c (w : zW) (d : Nat) (hd : 1 ≤ d) {x y z r i j : Int} (hx : 0 ≤ x ∧ x < 16) (hy : 0 ≤ y ∧ y < 16) (hz : 0 ≤ z ∧ z < 16) (hr : 0 ≤ r ∧ r < 6) (hi : 0 ≤ i ∧ i < 16) (hj : 0 ≤ j ∧ j < 16) :
    ∀ (m : Nat) (k : Int) (σ : zMem), 0 ≤ k → k + m = 16 → ∃ v σ', zden w (d + 1) 54 34 [zA 6 1 204, zI x, zI y, zI z, zI r, zI i, zI j, zI k] [] σ = zden w (d + 1) 54 21 [zA 6 1 204, zI x, zI y, zI z, zI r, zI i, zI (j + 1), v] [] σ'
      ∧ (∀ a t, a ≠ 205 → σ' a t = σ a t) ∧ ∀ q, 0 ≤ q → q < 4096 → (zbit σ' 205 q = true ↔ zbit σ 205 q = true ∨ (q / 256 = i ∧ q / 16 % 16 = j ∧ k ≤ q % 16 ∧ yib x y z r i j (q % 16))) := by
  have r1 : zR w 204 0 = 205 := rfl
  have ez : zar 0 z r = z + r := by rw [za_0, zw32_i (by omega)]
  have ej : zar 0 j 1 = j + 1 := by rw [za_0, zw32_i (by omega)]
  intro m
  induction m with
  | zero =>
    intro k σ h0 h
    refine ⟨zI k, σ, ?_, fun _ _ _ => rfl, fun q a b => ⟨Or.inl, fun u => ?_⟩⟩
    · rw [hX5_becomeBall_34, ez, s_343, Option.bind_some]
      dsimp only
      rw [if_pos (by omega), ej]
    · rcases u with u | u
      · exact u
      · omega
  | succ m ih =>
    intro k σ h0 h
    rw [hX5_becomeBall_34, ez, s_343, Option.bind_some]
    dsimp only
    by_cases c : z + r < k
    · refine ⟨zI k, σ, ?_, fun _ _ _ => rfl, fun q a b => ⟨Or.inl, fun u => ?_⟩⟩
      · rw [if_pos (by omega), ej]
      · rcases u with u | u
        · exact u
        · have := yib_z hr.1 u.2.2.2
          omega
    · obtain ⟨c1, c2⟩ := yib_c hx hy hz hr hi hj (k := k) (by omega)
      have ek : zar 0 k 1 = k + 1 := by rw [za_0, zw32_i (by omega)]
      rw [if_neg (by omega), c1, c2, ek]
      by_cases c3 : yib x y z r i j k
      · rw [if_neg (by unfold yib at c3; omega), s_208 w d (by omega), Option.bind_some]
        dsimp only
        rw [s_50 w hd 204 (by omega), Option.bind_some, r1]
        obtain ⟨v, σ', e, f1, f2⟩ := ih (k + 1) (yset 205 (256 * i + 16 * j + k) σ) (by omega) (by omega)
        refine ⟨v, σ', e, fun a t q => (f1 a t q).trans (yset_f (Or.inl q)), fun q a b => ?_⟩
        rw [f2 q a b, zbit_set (by decide) (by omega) a, Bool.or_eq_true, decide_eq_true_eq]
        constructor
        · rintro ((u | u) | u)
          · exact Or.inl u
          · refine Or.inr ⟨by omega, by omega, by omega, ?_⟩
            rw [show q % 16 = k by omega]
            exact c3
          · exact Or.inr ⟨u.1, u.2.1, by omega, u.2.2.2⟩
        · rintro (u | u)
          · exact Or.inl (Or.inl u)
          · by_cases g : q % 16 = k
            · exact Or.inl (Or.inr (by omega))
            · exact Or.inr ⟨u.1, u.2.1, by omega, u.2.2.2⟩
      · rw [if_pos (by unfold yib at c3; omega)]
        obtain ⟨v, σ', e, f1, f2⟩ := ih (k + 1) σ (by omega) (by omega)
        refine ⟨v, σ', e, f1, fun q a b => ?_⟩
        rw [f2 q a b]
        constructor
        · rintro (u | u)
          · exact Or.inl u
          · exact Or.inr ⟨u.1, u.2.1, by omega, u.2.2.2⟩
        · rintro (u | u)
          · exact Or.inl u
          · refine Or.inr ⟨u.1, u.2.1, ?_, u.2.2.2⟩
            have : q % 16 ≠ k := fun g => c3 (g ▸ u.2.2.2)
            omega
