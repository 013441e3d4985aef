/-! How many places there are; which is the i-th -/
def ybw (W : Int → Int) (p : Int) : Bool := (zu64 (W (p / 64))).testBit (p % 64).toNat
/-- how many places g has -/
def yct (g : Int → Bool) (n : Nat) : Nat := ycn (fun i => g (i : Int)) n
theorem yct_le (g : Int → Bool) (n : Nat) : yct g n ≤ n := ycn_le _ n
theorem yct_c {f g : Int → Bool} {n : Nat} (h : ∀ p : Int, 0 ≤ p → p < n → f p = g p) : yct f n = yct g n := ycn_c n fun i hi => h i (by omega) (by omega)
theorem yct_s (g : Int → Bool) (n : Nat) : yct g (n + 1) = yct g n + (if g (n : Int) = true then 1 else 0) := rfl
theorem yct_w (W : Int → Int) (k : Nat) : yct (ybw W) (64 * (k + 1)) = yct (ybw W) (64 * k) + ycn (zu64 (W k)).testBit 64 := by
  unfold yct
  rw [show 64 * (k + 1) = 64 * k + 64 by omega, ycn_add]
  congr 1
  refine ycn_c 64 fun i hi => ?_
  unfold ybw
  rw [show ((64 * k + i : Nat) : Int) / 64 = (k : Int) by omega, show (((64 * k + i : Nat) : Int) % 64).toNat = i by omega]
theorem l_57 (w : zW) (d : Nat) {a : Int} (σ : zMem) : ∀ (m k : Nat), k + m = 64 → zden w (d + 1) 57 4 [zA 6 1 a, zI (yct (zbit σ (zR w a 0)) (64 * k) : Nat), zI (k : Int)] [] σ = some (((yct (zbit σ (zR w a 0)) 4096 : Nat) : Int), σ) := by
  intro m
  induction m with
  | zero =>
    intro k h
    have : k = 64 := by omega
    subst this
    rw [hX5_size_4, if_neg (by omega)]
  | succ m ih =>
    intro k h
    have h1 := yct_le (zbit σ (zR w a 0)) (64 * k)
    have h2 := ycn_le (zu64 (σ (zR w a 0) k)).testBit 64
    have h3 : yct (zbit σ (zR w a 0)) (64 * (k + 1)) = yct (zbit σ (zR w a 0)) (64 * k) + ycn (zu64 (σ (zR w a 0) k)).testBit 64 := yct_w (σ (zR w a 0)) k
    have h4 := ih (k + 1) (by omega)
    rw [h3] at h4
    rw [hX5_size_4, if_pos (by omega), if_pos (by omega), s_338, Option.bind_some, za_0, za_0, zw32_i (by omega), zw32_i (z := (k : Int) + 1) (by omega)]
    exact h4
theorem s_57 (w : zW) {d : Nat} (hd : 1 ≤ d) (a : Int) (σ : zMem) : zcall w d 57 [zA 6 1 a] σ = some (((yct (zbit σ (zR w a 0)) 4096 : Nat) : Int), σ) := by
  obtain ⟨d, rfl⟩ : ∃ e, d = e + 1 := ⟨d - 1, by omega⟩
  rw [eX5_size]
  exact l_57 w d σ 64 0 (by omega)
theorem zbit_and {σ : zMem} {o o2 p : Int} : ybw (fun k => zar 17 (σ o k) (σ o2 k)) p = (zbit σ o p && zbit σ o2 p) := by
  unfold ybw zbit
  rw [zu64_and, Nat.testBit_and]
theorem zbit_xor {σ : zMem} {o o2 p : Int} : ybw (fun k => zar 19 (σ o k) (σ o2 k)) p = (zbit σ o p != zbit σ o2 p) := by
  unfold ybw zbit
  rw [zu64_xor, Nat.testBit_xor]
theorem l_58 (w : zW) (d : Nat) {a b : Int} (σ : zMem) : ∀ (m k : Nat), k + m = 64 → zden w (d + 1) 58 4 [zA 6 1 a, zA 6 1 b, zI (yct (ybw fun k => zar 17 (σ (zR w a 0) k) (σ (zR w b 0) k)) (64 * k) : Nat), zI (k : Int)] [] σ = some (((yct (ybw fun k => zar 17 (σ (zR w a 0) k) (σ (zR w b 0) k)) 4096 : Nat) : Int), σ) := by
  intro m
  induction m with
  | zero =>
    intro k h
    have : k = 64 := by omega
    subst this
    rw [hX5_sizeOfBoth_4, if_neg (by omega)]
  | succ m ih =>
    intro k h
    have h4 := ih (k + 1) (by omega)
    have h1 := yct_le (ybw fun k => zar 17 (σ (zR w a 0) k) (σ (zR w b 0) k)) (64 * k)
    have h2 := ycn_le (zu64 (zar 17 (σ (zR w a 0) k) (σ (zR w b 0) k))).testBit 64
    rw [yct_w] at h4
    rw [hX5_sizeOfBoth_4, if_pos (by omega), if_pos (by omega), if_pos (by omega), s_338, Option.bind_some, za_0, za_0, zw32_i (by omega), zw32_i (z := (k : Int) + 1) (by omega)]
    exact h4
theorem s_58 (w : zW) {d : Nat} (hd : 1 ≤ d) (a b : Int) (σ : zMem) : zcall w d 58 [zA 6 1 a, zA 6 1 b] σ = some (((yct (fun p => zbit σ (zR w a 0) p && zbit σ (zR w b 0) p) 4096 : Nat) : Int), σ) := by
  obtain ⟨d, rfl⟩ : ∃ e, d = e + 1 := ⟨d - 1, by omega⟩
  rw [eX5_sizeOfBoth]
  refine (l_58 w d σ 64 0 (by omega)).trans ?_
  rw [yct_c (n := 4096) (f := ybw fun k => zar 17 (σ (zR w a 0) k) (σ (zR w b 0) k)) (g := fun p => zbit σ (zR w a 0) p && zbit σ (zR w b 0) p) fun p _ _ => zbit_and]
theorem l_59 (w : zW) (d : Nat) {a b : Int} (σ : zMem) : ∀ (m k : Nat), k + m = 64 → zden w (d + 1) 59 4 [zA 6 1 a, zA 6 1 b, zI (yct (ybw fun k => zar 19 (σ (zR w a 0) k) (σ (zR w b 0) k)) (64 * k) : Nat), zI (k : Int)] [] σ = some (((yct (ybw fun k => zar 19 (σ (zR w a 0) k) (σ (zR w b 0) k)) 4096 : Nat) : Int), σ) := by
  intro m
  induction m with
  | zero =>
    intro k h
    have : k = 64 := by omega
    subst this
    rw [hX5_sizeOfOne_4, if_neg (by omega)]
  | succ m ih =>
    intro k h
    have h4 := ih (k + 1) (by omega)
    have h1 := yct_le (ybw fun k => zar 19 (σ (zR w a 0) k) (σ (zR w b 0) k)) (64 * k)
    have h2 := ycn_le (zu64 (zar 19 (σ (zR w a 0) k) (σ (zR w b 0) k))).testBit 64
    rw [yct_w] at h4
    rw [hX5_sizeOfOne_4, if_pos (by omega), if_pos (by omega), if_pos (by omega), s_338, Option.bind_some, za_0, za_0, zw32_i (by omega), zw32_i (z := (k : Int) + 1) (by omega)]
    exact h4
theorem s_59 (w : zW) {d : Nat} (hd : 1 ≤ d) (a b : Int) (σ : zMem) : zcall w d 59 [zA 6 1 a, zA 6 1 b] σ = some (((yct (fun p => zbit σ (zR w a 0) p != zbit σ (zR w b 0) p) 4096 : Nat) : Int), σ) := by
  obtain ⟨d, rfl⟩ : ∃ e, d = e + 1 := ⟨d - 1, by omega⟩
  rw [eX5_sizeOfOne]
  refine (l_59 w d σ 64 0 (by omega)).trans ?_
  rw [yct_c (n := 4096) (f := ybw fun k => zar 19 (σ (zR w a 0) k) (σ (zR w b 0) k)) (g := fun p => zbit σ (zR w a 0) p != zbit σ (zR w b 0) p) fun p _ _ => zbit_xor]
/-- the i-th place of g from k on, or -1 -/
def ynth (g : Int → Bool) : Nat → Int → Int → Int
  | 0, _, _ => -1
  | m + 1, k, i => if g k = true then (if i = 0 then k else ynth g m (k + 1) (i - 1)) else ynth g m (k + 1) i
theorem l_61 (w : zW) (d : Nat) (hd : 1 ≤ d) {a : Int} (σ : zMem) : ∀ (m : Nat) (k i : Int) (v : zV), 0 ≤ k → k + m = 4096 → (0 ≤ i ∧ i < 2147483648) →
    zden w (d + 1) 61 4 [zA 6 1 a, v, zI i, zI k] [] σ = some (ynth (zbit σ (zR w a 0)) m k i, σ) := by
  intro m
  induction m with
  | zero =>
    intro k i v h0 h hi
    rw [hX5_ofThem_4, if_neg (by omega)]
    rfl
  | succ m ih =>
    intro k i v h0 h hi
    have e1 : zar 0 k 1 = k + 1 := by rw [za_0, zw32_i (by omega)]
    rw [hX5_ofThem_4, if_pos (by omega), s_49 w hd, Option.bind_some]
    dsimp only
    rw [zt_if, ynth, e1]
    by_cases c : zbit σ (zR w a 0) k = true
    · rw [if_pos ⟨by omega, c⟩, if_pos c]
      by_cases c2 : i = 0
      · rw [if_pos c2, if_pos c2]
      · rw [if_neg c2, if_neg c2, za_0, zw32_i (by omega), ih (k + 1) _ _ (by omega) (by omega) (by omega)]
        rfl
    · rw [if_neg (fun q => c q.2), if_neg c, ih (k + 1) _ _ (by omega) (by omega) (by omega)]
theorem l_61n (w : zW) (d : Nat) (hd : 1 ≤ d) {a : Int} (σ : zMem) : ∀ (m : Nat) (k i : Int) (v : zV), 0 ≤ k → k + m = 4096 → (-2147483648 ≤ i ∧ i < 2147483648) → (i < 0 ∨ 4096 < i + k) →
    zden w (d + 1) 61 4 [zA 6 1 a, v, zI i, zI k] [] σ = some (-1, σ) := by
  intro m
  induction m with
  | zero =>
    intro k i v h0 h hi hc
    rw [hX5_ofThem_4, if_neg (by omega)]
  | succ m ih =>
    intro k i v h0 h hi hc
    have e1 : zar 0 k 1 = k + 1 := by rw [za_0, zw32_i (by omega)]
    rw [hX5_ofThem_4, if_pos (by omega), s_49 w hd, Option.bind_some]
    dsimp only
    rw [zt_if, e1]
    by_cases c : zbit σ (zR w a 0) k = true
    · rw [if_pos ⟨by omega, c⟩, if_neg (by omega)]
      by_cases c2 : i = -2147483648
      · have e2 : zar 0 i (-1) = 2147483647 := by rw [za_0, c2]; decide +kernel
        rw [e2]
        exact ih (k + 1) _ _ (by omega) (by omega) (by omega) (by omega)
      · rw [za_0, zw32_i (by omega)]
        exact ih (k + 1) _ _ (by omega) (by omega) (by omega) (by omega)
    · rw [if_neg (fun q => c q.2)]
      exact ih (k + 1) _ _ (by omega) (by omega) (by omega) (by omega)
theorem s_61 (w : zW) {d : Nat} (hd : 2 ≤ d) (a : Int) {i : Int} (hi : zc32 i) (σ : zMem) : zcall w d 61 [zA 6 1 a, zI i] σ = some (if i < 0 then -1 else ynth (zbit σ (zR w a 0)) 4096 0 i, σ) := by
  obtain ⟨d, rfl⟩ : ∃ e, d = e + 1 := ⟨d - 1, by omega⟩
  have h1 := hi.1
  have h2 := hi.2
  rw [eX5_ofThem]
  by_cases c : i < 0
  · rw [if_pos c]
    exact l_61n w d (by omega) σ 4096 0 i _ (by omega) (by omega) (by omega) (by omega)
  · rw [if_neg c]
    exact l_61 w d (by omega) σ 4096 0 i _ (by omega) (by omega) (by omega)
