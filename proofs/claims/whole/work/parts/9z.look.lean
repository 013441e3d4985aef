section
/-! The cubes that are looked at -/
/-- q lies in the cube of side m from x, y, z on -/
def yic (m x y z q : Int) : Prop := (x ≤ q / 256 ∧ q / 256 < x + m) ∧ (y ≤ q / 16 % 16 ∧ q / 16 % 16 < y + m) ∧ z ≤ q % 16 ∧ q % 16 < z + m
theorem yr_86 (w : zW) {s : Int} (h : 0 ≤ s ∧ s < 24) : zR w 86 s = 121 + 2 * s ∧ zR w (121 + 2 * s) 0 = 122 + 2 * s := by
  have : s = 0 ∨ s = 1 ∨ s = 2 ∨ s = 3 ∨ s = 4 ∨ s = 5 ∨ s = 6 ∨ s = 7 ∨ s = 8 ∨ s = 9 ∨ s = 10 ∨ s = 11 ∨ s = 12 ∨ s = 13 ∨ s = 14 ∨ s = 15 ∨ s = 16 ∨ s = 17 ∨ s = 18 ∨ s = 19 ∨ s = 20 ∨ s = 21 ∨ s = 22 ∨ s = 23 := by omega
  rcases this with rfl | rfl | rfl | rfl | rfl | rfl | rfl | rfl | rfl | rfl | rfl | rfl | rfl | rfl | rfl | rfl | rfl | rfl | rfl | rfl | rfl | rfl | rfl | rfl <;> exact ⟨rfl, rfl⟩
theorem l_51c (w : zW) {d : Nat} (hd : 1 ≤ d) {o a x y z m i j : Int} (ro : zR w a 0 = o) (ho : o ≠ 0) (hm : 0 ≤ m) (hx : 0 ≤ x ∧ x + m ≤ 16) (hy : 0 ≤ y ∧ y + m ≤ 16) (hz : 0 ≤ z ∧ z + m ≤ 16) (hi : 0 ≤ i ∧ i < 16) (hj : 0 ≤ j ∧ j < 16) :
    ∀ (t : Nat) (k : Int) (σ : zMem), 0 ≤ k → k + t = z + m → ∃ v σ', zden w (d + 1) 51 16 [zA 6 1 a, zI x, zI y, zI z, zI m, zI i, zI j, zI k] [] σ = zden w (d + 1) 51 9 [zA 6 1 a, zI x, zI y, zI z, zI m, zI i, zI (j + 1), v] [] σ'
      ∧ (∀ c u, c ≠ o → σ' c u = σ c u) ∧ ∀ q, 0 ≤ q → q < 4096 → (zbit σ' o q = true ↔ zbit σ o q = true ∨ (q / 256 = i ∧ q / 16 % 16 = j ∧ k ≤ q % 16 ∧ q % 16 < z + m)) := by
  have ez : zar 0 z m = z + m := by rw [za_0, zw32_i (by omega)]
  have ej : zar 0 j 1 = j + 1 := by rw [za_0, zw32_i (by omega)]
  intro t
  induction t with
  | zero =>
    intro k σ h0 h
    refine ⟨zI k, σ, ?_, fun _ _ _ => rfl, fun q a b => ⟨Or.inl, fun u => ?_⟩⟩
    · rw [hX5_addCube_16, ez, if_neg (by omega), ej]
    · rcases u with u | u
      · exact u
      · omega
  | succ t ih =>
    intro k σ h0 h
    have ek : zar 0 k 1 = k + 1 := by rw [za_0, zw32_i (by omega)]
    rw [hX5_addCube_16, ez, if_pos (by omega), s_208 w d (by omega), Option.bind_some]
    dsimp only
    rw [s_50 w hd a (by omega), Option.bind_some, ro, ek]
    obtain ⟨v, σ', e, f1, f2⟩ := ih (k + 1) (yset o (256 * i + 16 * j + k) σ) (by omega) (by omega)
    refine ⟨v, σ', e, fun c u q => (f1 c u q).trans (yset_f (Or.inl q)), fun q a b => ?_⟩
    rw [f2 q a b, zbit_set ho (by omega) a, Bool.or_eq_true, decide_eq_true_eq]
    constructor
    · rintro ((u | u) | u)
      · exact Or.inl u
      · exact Or.inr (by omega)
      · exact Or.inr (by omega)
    · rintro (u | u)
      · exact Or.inl (Or.inl u)
      · by_cases g : q % 16 = k
        · exact Or.inl (Or.inr (by omega))
        · exact Or.inr (by omega)
theorem l_51b (w : zW) {d : Nat} (hd : 1 ≤ d) {o a x y z m i : Int} (ro : zR w a 0 = o) (ho : o ≠ 0) (hm : 0 ≤ m) (hx : 0 ≤ x ∧ x + m ≤ 16) (hy : 0 ≤ y ∧ y + m ≤ 16) (hz : 0 ≤ z ∧ z + m ≤ 16) (hi : 0 ≤ i ∧ i < 16) :
    ∀ (t : Nat) (j : Int) (v : zV) (σ : zMem), 0 ≤ j → j + t = y + m → ∃ v6 v7 σ', zden w (d + 1) 51 9 [zA 6 1 a, zI x, zI y, zI z, zI m, zI i, zI j, v] [] σ = zden w (d + 1) 51 2 [zA 6 1 a, zI x, zI y, zI z, zI m, zI (i + 1), v6, v7] [] σ'
      ∧ (∀ c u, c ≠ o → σ' c u = σ c u) ∧ ∀ q, 0 ≤ q → q < 4096 → (zbit σ' o q = true ↔ zbit σ o q = true ∨ (q / 256 = i ∧ (j ≤ q / 16 % 16 ∧ q / 16 % 16 < y + m) ∧ z ≤ q % 16 ∧ q % 16 < z + m)) := by
  have ey : zar 0 y m = y + m := by rw [za_0, zw32_i (by omega)]
  have ei : zar 0 i 1 = i + 1 := by rw [za_0, zw32_i (by omega)]
  intro t
  induction t with
  | zero =>
    intro j v σ h0 h
    refine ⟨zI j, v, σ, ?_, fun _ _ _ => rfl, fun q a b => ⟨Or.inl, fun u => ?_⟩⟩
    · rw [hX5_addCube_9, ey, if_neg (by omega), ei]
    · rcases u with u | u
      · exact u
      · omega
  | succ t ih =>
    intro j v σ h0 h
    rw [hX5_addCube_9, ey, if_pos (by omega)]
    obtain ⟨v1, σ1, e1, f1, g1⟩ := l_51c w hd ro ho hm hx hy hz hi (j := j) (by omega) m.toNat z σ (by omega) (by omega)
    rw [e1]
    obtain ⟨v6, v7, σ2, e2, f2, g2⟩ := ih (j + 1) v1 σ1 (by omega) (by omega)
    refine ⟨v6, v7, σ2, e2, fun c u q => (f2 c u q).trans (f1 c u q), fun q a b => ?_⟩
    rw [g2 q a b, g1 q a b]
    constructor
    · rintro ((u | u) | u)
      · exact Or.inl u
      · exact Or.inr (by omega)
      · exact Or.inr (by omega)
    · rintro (u | u)
      · exact Or.inl (Or.inl u)
      · by_cases g : q / 16 % 16 = j
        · exact Or.inl (Or.inr (by omega))
        · exact Or.inr (by omega)
theorem l_51a (w : zW) {d : Nat} (hd : 1 ≤ d) {o a x y z m : Int} (ro : zR w a 0 = o) (ho : o ≠ 0) (hm : 0 ≤ m) (hx : 0 ≤ x ∧ x + m ≤ 16) (hy : 0 ≤ y ∧ y + m ≤ 16) (hz : 0 ≤ z ∧ z + m ≤ 16) :
    ∀ (t : Nat) (i : Int) (v6 v7 : zV) (σ : zMem), 0 ≤ i → i + t = x + m → ∃ σ', zden w (d + 1) 51 2 [zA 6 1 a, zI x, zI y, zI z, zI m, zI i, v6, v7] [] σ = some (0, σ')
      ∧ (∀ c u, c ≠ o → σ' c u = σ c u) ∧ ∀ q, 0 ≤ q → q < 4096 → (zbit σ' o q = true ↔ zbit σ o q = true ∨ ((i ≤ q / 256 ∧ q / 256 < x + m) ∧ (y ≤ q / 16 % 16 ∧ q / 16 % 16 < y + m) ∧ z ≤ q % 16 ∧ q % 16 < z + m)) := by
  have ex : zar 0 x m = x + m := by rw [za_0, zw32_i (by omega)]
  intro t
  induction t with
  | zero =>
    intro i v6 v7 σ h0 h
    refine ⟨σ, ?_, fun _ _ _ => rfl, fun q a b => ⟨Or.inl, fun u => ?_⟩⟩
    · rw [hX5_addCube_2, ex, if_neg (by omega)]
    · rcases u with u | u
      · exact u
      · omega
  | succ t ih =>
    intro i v6 v7 σ h0 h
    rw [hX5_addCube_2, ex, if_pos (by omega)]
    obtain ⟨u6, u7, σ1, e1, f1, g1⟩ := l_51b w hd ro ho hm hx hy hz (i := i) (by omega) m.toNat y v7 σ (by omega) (by omega)
    rw [e1]
    obtain ⟨σ2, e2, f2, g2⟩ := ih (i + 1) u6 u7 σ1 (by omega) (by omega)
    refine ⟨σ2, e2, fun c u q => (f2 c u q).trans (f1 c u q), fun q a b => ?_⟩
    rw [g2 q a b, g1 q a b]
    constructor
    · rintro ((u | u) | u)
      · exact Or.inl u
      · exact Or.inr (by omega)
      · exact Or.inr (by omega)
    · rintro (u | u)
      · exact Or.inl (Or.inl u)
      · by_cases g : q / 256 = i
        · exact Or.inl (Or.inr (by omega))
        · exact Or.inr (by omega)
theorem s_51 (w : zW) {d : Nat} (hd : 2 ≤ d) {o a x y z m : Int} (ro : zR w a 0 = o) (ho : o ≠ 0) (hm : 0 ≤ m) (hx : 0 ≤ x ∧ x + m ≤ 16) (hy : 0 ≤ y ∧ y + m ≤ 16) (hz : 0 ≤ z ∧ z + m ≤ 16) (σ : zMem) :
    ∃ σ', zcall w d 51 [zA 6 1 a, zI x, zI y, zI z, zI m] σ = some (0, σ') ∧ (∀ c u, c ≠ o → σ' c u = σ c u) ∧ ∀ q, 0 ≤ q → q < 4096 → (zbit σ' o q = true ↔ zbit σ o q = true ∨ yic m x y z q) := by
  obtain ⟨d, rfl⟩ : ∃ e, d = e + 1 := ⟨d - 1, by omega⟩
  rw [eX5_addCube]
  exact l_51a w (by omega) ro ho hm hx hy hz m.toNat x zU zU σ (by omega) (by omega)
/-- how many cubes there may be -/
def yS : Nat → Int
  | 0 => 1
  | n + 1 => 1 + 8 * yS n
theorem zlk_b (T : Int → Int) (s : Int) : ∀ (n : Nat) (x y z : Int), 1 ≤ zlkN T s n x y z ∧ zlkN T s n x y z ≤ yS n := by
  intro n
  induction n with
  | zero => intro x y z; exact ⟨Int.le_refl _, Int.le_refl _⟩
  | succ n ih =>
    intro x y z
    have b0 := ih x y z
    have b1 := ih x y (z + 2 ^ n)
    have b2 := ih x (y + 2 ^ n) z
    have b3 := ih x (y + 2 ^ n) (z + 2 ^ n)
    have b4 := ih (x + 2 ^ n) y z
    have b5 := ih (x + 2 ^ n) y (z + 2 ^ n)
    have b6 := ih (x + 2 ^ n) (y + 2 ^ n) z
    have b7 := ih (x + 2 ^ n) (y + 2 ^ n) (z + 2 ^ n)
    rw [zlkN, yS]
    split <;> omega
theorem y2n {n : Nat} (h : n ≤ 4) : (1 : Int) ≤ 2 ^ n ∧ (2 : Int) ^ n ≤ 16 ∧ (2 : Int) ^ (n + 1) = 2 * 2 ^ n := by
  have : n = 0 ∨ n = 1 ∨ n = 2 ∨ n = 3 ∨ n = 4 := by omega
  rcases this with rfl | rfl | rfl | rfl | rfl <;> decide
theorem yzns_lo {T : Int → Int} {n s x y z m q : Int} (hT : zWF T n) (h0 : 0 ≤ s) (h1 : s < n) (hq : yic m x y z q) (h : (zbd T 7 s (zcube x y z m)).2 ≤ 0) : zns T s q = true := by
  have := (ybd_l hT 7 s (zcube x y z m) (q / 256) (q / 16 % 16) (q % 16) h0 h1 (by unfold yic at hq; unfold yin zcube; dsimp only; omega)).2
  exact decide_eq_true (by omega)
theorem yzns_hi {T : Int → Int} {n s x y z m q : Int} (hT : zWF T n) (h0 : 0 ≤ s) (h1 : s < n) (hq : yic m x y z q) (h : 0 < (zbd T 7 s (zcube x y z m)).1) : ¬ zns T s q = true := by
  have := (ybd_l hT 7 s (zcube x y z m) (q / 256) (q / 16 % 16) (q % 16) h0 h1 (by unfold yic at hq; unfold yin zcube; dsimp only; omega)).1
  unfold zns
  rw [decide_eq_true_eq]; omega
end
