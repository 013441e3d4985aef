/-! Small methods: greatest, least, amounts, kinds, where places lie -/
theorem s_341 (w : zW) (d : Nat) (x y : Int) (σ : zMem) : zcall w d 341 [zI x, zI y] σ = some (max x y, σ) := by
  rw [eJ9_max_7cf53]
  split
  · rw [Int.max_eq_right (by omega)]
  · rw [Int.max_eq_left (by omega)]
theorem s_342 (w : zW) (d : Nat) (x y : Int) (σ : zMem) : zcall w d 342 [zJ x, zJ y] σ = some (max x y, σ) := by
  rw [eJ9_max_f86c9, zcmp_lt]
  split
  · rw [Int.max_eq_right (by omega)]
  · rw [Int.max_eq_left (by omega)]
theorem s_344 (w : zW) (d : Nat) (x y : Int) (σ : zMem) : zcall w d 344 [zJ x, zJ y] σ = some (min x y, σ) := by
  rw [eJ9_min_f86c9, zcmp_gt]
  split
  · rw [Int.min_eq_right (by omega)]
  · rw [Int.min_eq_left (by omega)]
theorem s_340 (w : zW) (d : Nat) {x : Int} (hx : -9223372036854775808 < x ∧ x < 9223372036854775808) (σ : zMem) : zcall w d 340 [zJ x] σ = some (max x (-x), σ) := by
  rw [eJ9_abs_067f4, zcmp_lt, za_16]
  split
  · rw [Int.max_eq_right (by omega), zw64_i (by omega)]
  · rw [Int.max_eq_left (by omega)]
theorem s_27 (w : zW) (d : Nat) (x : Int) (σ : zMem) : zcall w d 27 [zI x] σ = some (zt (3 ≤ x ∧ x ≤ 5), σ) := by
  rw [eX2_isSolid, zt]
  (repeat' split) <;> first | rfl | omega
theorem s_28 (w : zW) (d : Nat) (x : Int) (σ : zMem) : zcall w d 28 [zI x] σ = some (zt (8 ≤ x ∧ x ≤ 11), σ) := by
  rw [eX2_isPair, zt]
  (repeat' split) <;> first | rfl | omega
theorem s_276 (w : zW) (d : Nat) (x : Int) (σ : zMem) : zcall w d 276 [zI x] σ = some (zno x, σ) := by
  rw [eX12_numbersOf, zno]
  (repeat' split) <;> first | rfl | omega
theorem s_29 (w : zW) (d : Nat) {x : Int} (h : (3 ≤ x ∧ x ≤ 5) ∨ (8 ≤ x ∧ x ≤ 17)) (σ : zMem) : zcall w d 29 [zI x] σ = some (zno x, σ) := by
  rw [eX2_numbersOf, if_neg (by omega), if_pos (by omega), if_pos (by omega)]
  have : x = 3 ∨ x = 4 ∨ x = 5 ∨ x = 8 ∨ x = 9 ∨ x = 10 ∨ x = 11 ∨ x = 12 ∨ x = 13 ∨ x = 14 ∨ x = 15 ∨ x = 16 ∨ x = 17 := by omega
  rcases this with rfl | rfl | rfl | rfl | rfl | rfl | rfl | rfl | rfl | rfl | rfl | rfl | rfl <;> rfl
theorem s_32 (w : zW) {d : Nat} (hd : 1 ≤ d) (x : Int) (σ : zMem) : zcall w d 32 [zI x] σ = some (zt (-40 ≤ x ∧ x ≤ 55), σ) := by
  obtain ⟨d, rfl⟩ : ∃ e, d = e + 1 := ⟨d - 1, by omega⟩
  rw [eX2_isSpot]
  simp only [s_200, Option.bind_some, zt_01]
theorem s_223 (w : zW) (d : Nat) (a x y z : Int) (σ : zMem) : zcall w d 223 [zI a, zI x, zI y, zI z] σ = some (zpick a x y z, σ) := by
  rw [eX12_pick, zpick]
  (repeat' split) <;> rfl
theorem zand_15 {x : Int} (h : 0 ≤ x ∧ x < 2147483648) : zar 6 x 15 = x % 16 := by
  have h1 : zu32 x &&& 15 = zu32 x % 2 ^ 4 := Nat.and_two_pow_sub_one_eq_mod _ 4
  have h2 : zu32 15 = 15 := rfl
  have h3 : zu32 x = x.toNat := by unfold zu32; omega
  rw [za_6, zand, h2, h1, h3, zw32_i (by omega)]
  omega
theorem zshr_n {x : Int} {n : Int} (h : 0 ≤ n ∧ n < 32) : zar 10 x n = x / 2 ^ n.toNat := by
  have e : zu32 n % 32 = n.toNat := by unfold zu32; omega
  rw [za_10, zshr, e]
theorem s_208 (w : zW) (d : Nat) {x y z : Int} (h : (0 ≤ x ∧ x < 16) ∧ (0 ≤ y ∧ y < 16) ∧ 0 ≤ z ∧ z < 16) (σ : zMem) : zcall w d 208 [zI x, zI y, zI z] σ = some (256 * x + 16 * y + z, σ) := by
  rw [eX11_placeAt, za_2, za_2, zw32_i (z := 256 * x) (by omega), zw32_i (z := 16 * y) (by omega), za_0, za_0, zw32_i (z := 256 * x + 16 * y) (by omega), zw32_i (by omega)]
/-- where a place lies on an axis -/
def zon (p a : Int) : Int := zpick a (p / 256) (p / 16 % 16) (p % 16)
theorem s_210 (w : zW) (d : Nat) {a : Int} (h : 0 ≤ a ∧ a < 3) (σ : zMem) : zcall w d 210 [zI a] σ = some (4 * (2 - a), σ) := by
  rw [eX11_shiftOf, za_1, zw32_i (by omega), za_2, zw32_i (by omega)]
theorem s_209 (w : zW) {d : Nat} (hd : 1 ≤ d) {p a : Int} (hp : 0 ≤ p ∧ p < 4096) (h : 0 ≤ a ∧ a < 3) (σ : zMem) : zcall w d 209 [zI p, zI a] σ = some (zon p a, σ) := by
  obtain ⟨d, rfl⟩ : ∃ e, d = e + 1 := ⟨d - 1, by omega⟩
  rw [eX11_numberOn, s_210 w d h, Option.bind_some]
  dsimp only
  have : a = 0 ∨ a = 1 ∨ a = 2 := by omega
  rcases this with rfl | rfl | rfl
  · have e : zar 10 p (4 * (2 - 0)) = p / 256 := zshr_n (n := 8) (by decide)
    rw [e, zand_15 (by omega)]
    show some (p / 256 % 16, σ) = some (p / 256, σ)
    rw [show p / 256 % 16 = p / 256 by omega]
  · have e : zar 10 p (4 * (2 - 1)) = p / 16 := zshr_n (n := 4) (by decide)
    rw [e, zand_15 (by omega)]
    rfl
  · have e : zar 10 p (4 * (2 - 2)) = p / 1 := zshr_n (n := 0) (by decide)
    rw [e, zand_15 (by omega)]
    show some (p / 1 % 16, σ) = some (p % 16, σ)
    rw [Int.ediv_one]
theorem s_243 (w : zW) (d : Nat) (p : Int) (σ : zMem) : zcall w d 243 [zI p] σ = some (p / 256, σ) := by
  rw [eX12_xOf, zshr_n (n := 8) (by decide)]
  rfl
theorem s_244 (w : zW) (d : Nat) {p : Int} (hp : 0 ≤ p ∧ p < 4096) (σ : zMem) : zcall w d 244 [zI p] σ = some (p / 16 % 16, σ) := by
  have e : zar 10 p 4 = p / 16 := zshr_n (n := 4) (by decide)
  rw [eX12_yOf, e, zand_15 (by omega)]
theorem s_245 (w : zW) (d : Nat) {p : Int} (hp : 0 ≤ p ∧ p < 4096) (σ : zMem) : zcall w d 245 [zI p] σ = some (p % 16, σ) := by
  rw [eX12_zOf, zand_15 (by omega)]
theorem s_254 (w : zW) {d : Nat} (hd : 1 ≤ d) {p : Int} (hp : 0 ≤ p ∧ p < 4096) (a : Int) (σ : zMem) : zcall w d 254 [zI p, zI a] σ = some (zon p a, σ) := by
  obtain ⟨d, rfl⟩ : ∃ e, d = e + 1 := ⟨d - 1, by omega⟩
  rw [eX12_axisOf]
  simp only [s_243, s_244 w d hp, s_245 w d hp, s_223, Option.bind_some]
  rfl
