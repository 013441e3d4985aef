/-! Math.floorMod -/
theorem yxor_s {x y : Int} (hx : zc32 x) (hy : 0 ≤ y ∧ y < 2147483648) : zar 8 x y < 0 ↔ x < 0 := by
  have h1 := hx.1
  have h2 := hx.2
  have a1 : zu32 x < 2 ^ 32 := by unfold zu32; omega
  have a2 : zu32 y < 2 ^ 32 := by unfold zu32; omega
  have hlt : zu32 x ^^^ zu32 y < 2 ^ 32 := Nat.xor_lt_two_pow a1 a2
  have hb : (zu32 x ^^^ zu32 y).testBit 31 = (zu32 x).testBit 31 := by
    rw [Nat.testBit_xor]
    have : (zu32 y).testBit 31 = false := Nat.testBit_lt_two_pow (by unfold zu32; omega)
    rw [this]
    simp
  rw [Nat.testBit_eq_decide_div_mod_eq, Nat.testBit_eq_decide_div_mod_eq, decide_eq_decide] at hb
  have hz : zar 8 x y = zw32 ((zu32 x ^^^ zu32 y : Nat) : Int) := by rw [za_8]; rfl
  rw [hz]
  generalize hn : zu32 x ^^^ zu32 y = n at *
  have hu : zu32 x = if x < 0 then (x + 4294967296).toNat else x.toNat := by
    unfold zu32
    split <;> omega
  rw [hu] at hb
  have hw : zw32 (n : Int) = if (n : Int) < 2147483648 then (n : Int) else (n : Int) - 4294967296 := by
    unfold zw32
    rw [Int.bmod_def]
    split <;> split <;> omega
  rw [hw]
  by_cases c : x < 0
  · rw [if_pos c] at hb
    have := hb.mpr (by omega)
    rw [if_neg (by omega)]
    omega
  · rw [if_neg c] at hb
    have h3 : ¬ (n / 2 ^ 31 % 2 = 1) := fun q => by have := hb.mp q; omega
    rw [if_pos (by omega)]
    omega
theorem s_339 (w : zW) (d : Nat) {x y : Int} (hx : zc32 x) (hy : 0 < y ∧ y < 2147483648) (σ : zMem) : zcall w d 339 [zI x, zI y] σ = some (x % y, σ) := by
  have h1 := hx.1
  have h2 := hx.2
  rw [eJ9_floorMod_7cf53, if_neg (by omega)]
  have hs := yxor_s hx (y := y) (by omega)
  have ht := Int.tmod_add_mul_tdiv x y
  have he : x % y + y * (x / y) = x := Int.emod_add_mul_ediv x y
  have e0 := Int.emod_nonneg x (show y ≠ 0 by omega)
  have e1 := Int.emod_lt_of_pos x hy.1
  by_cases c : x < 0
  · rw [if_pos (hs.mpr c)]
    have hm : x.tmod y = -((-x) % y) := by
      have := Int.neg_tmod (-x) y
      rw [Int.neg_neg] at this
      rw [this, Int.tmod_eq_emod_of_nonneg (by omega)]
    have f0 := Int.emod_nonneg (-x) (show y ≠ 0 by omega)
    have f1 := Int.emod_lt_of_pos (-x) hy.1
    rw [za_4, hm]
    by_cases c2 : (-x) % y = 0
    · have : x % y = 0 := by
        have := Int.dvd_of_emod_eq_zero c2
        exact Int.emod_eq_zero_of_dvd ((Int.dvd_neg).mp this)
      rw [if_pos (by omega), c2, this]
      rfl
    · rw [if_neg (by omega), za_0, zw32_i (by omega)]
      congr 2
      have k1 : x = -((-x) % y) + y * (-((-x) / y)) := by
        have := Int.emod_add_mul_ediv (-x) y
        rw [Int.mul_neg]
        omega
      have k2 : x % y = (-((-x) % y) + y + y * (-((-x) / y) - 1)) % y := by
        congr 1
        rw [Int.mul_sub]
        omega
      rw [k2, Int.add_mul_emod_self_left]
      exact (Int.emod_eq_of_lt (by omega) (by omega)).symm
  · rw [if_neg (fun q => c (hs.mp q)), za_4, Int.tmod_eq_emod_of_nonneg (by omega)]
