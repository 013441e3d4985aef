/-! How many bits of a word are set -/
def ycn (f : Nat → Bool) : Nat → Nat
  | 0 => 0
  | n + 1 => ycn f n + (if f n = true then 1 else 0)
def ym5 : Nat → Nat
  | 0 => 0
  | k + 1 => 85 + 256 * ym5 k
def ym3 : Nat → Nat
  | 0 => 0
  | k + 1 => 51 + 256 * ym3 k
def ymF : Nat → Nat
  | 0 => 0
  | k + 1 => 15 + 256 * ymF k
def yp1 (m N : Nat) : Nat := N - (N / 2 &&& m)
def yp2 (m t : Nat) : Nat := (t &&& m) + (t / 4 &&& m)
def yp3 (m t : Nat) : Nat := (t + t / 16) &&& m
theorem yand_b {a b m M : Nat} (ha : a < 256) (hm : m < 256) : (a + 256 * b) &&& (m + 256 * M) = (a &&& m) + 256 * (b &&& M) := by
  have h1 : ((a + 256 * b) &&& (m + 256 * M)) % 2 ^ 8 = a &&& m := by
    rw [Nat.and_mod_two_pow]
    congr 1 <;> omega
  have h2 : ((a + 256 * b) &&& (m + 256 * M)) / 2 ^ 8 = b &&& M := by
    rw [Nat.and_div_two_pow]
    congr 1 <;> omega
  have h3 : a &&& m < 2 ^ 8 := Nat.and_lt_two_pow _ hm
  omega
theorem yd1 : ∀ c, c < 128 → ∀ e, e < 2 → (c + 128 * e) &&& 85 = c &&& 85 := by decide +kernel
theorem yd2 : ∀ c, c < 64 → ∀ e, e < 4 → (c + 64 * e) &&& 51 = c &&& 51 := by decide +kernel
theorem yd3 : ∀ a, a < 256 → yp2 51 (yp1 85 a) ≤ 68 ∧ yp2 51 (yp1 85 a) % 16 ≤ 4 ∧ yp2 51 (yp1 85 a) / 16 ≤ 4 ∧ (yp2 51 (yp1 85 a) + yp2 51 (yp1 85 a) / 16) % 16 = ycn a.testBit 8 := by decide +kernel
theorem yp1_s (k : Nat) {a : Nat} (b : Nat) (ha : a < 256) : yp1 (ym5 (k + 1)) (a + 256 * b) = yp1 85 a + 256 * yp1 (ym5 k) b := by
  have e : (a + 256 * b) / 2 = (a / 2 + 128 * (b % 2)) + 256 * (b / 2) := by omega
  have h1 : a / 2 &&& 85 ≤ a / 2 := Nat.and_le_left
  have h2 : b / 2 &&& ym5 k ≤ b / 2 := Nat.and_le_left
  unfold yp1
  rw [e, ym5, yand_b (by omega) (by decide), yd1 _ (by omega) _ (by omega)]
  omega
theorem yp1_le (m a : Nat) : yp1 m a ≤ a := Nat.sub_le _ _
theorem yp2_s (k : Nat) {a : Nat} (b : Nat) (ha : a < 256) : yp2 (ym3 (k + 1)) (a + 256 * b) = yp2 51 a + 256 * yp2 (ym3 k) b := by
  have e : (a + 256 * b) / 4 = (a / 4 + 64 * (b % 4)) + 256 * (b / 4) := by omega
  unfold yp2
  rw [e, ym3, yand_b ha (by decide), yand_b (by omega) (by decide), yd2 _ (by omega) _ (by omega)]
  omega
theorem yp3_s (k : Nat) {a : Nat} (b : Nat) (ha : a ≤ 68) (hb : b % 16 ≤ 4) : yp3 (ymF (k + 1)) (a + 256 * b) = (a + a / 16) % 16 + 256 * yp3 (ymF k) b := by
  have e : (a + 256 * b) + (a + 256 * b) / 16 = (a + a / 16 + 16 * (b % 16)) + 256 * (b + b / 16) := by omega
  have h3 : (a + a / 16 + 16 * (b % 16)) &&& 15 = (a + a / 16 + 16 * (b % 16)) % 2 ^ 4 := Nat.and_two_pow_sub_one_eq_mod _ 4
  unfold yp3
  rw [e, ymF, yand_b (by omega) (by decide), h3]
  omega
/-- all three steps -/
def ypp (k N : Nat) : Nat := yp3 (ymF k) (yp2 (ym3 k) (yp1 (ym5 k) N))
theorem yp2_16 : ∀ (k N : Nat), N < 256 ^ k → yp2 (ym3 k) (yp1 (ym5 k) N) % 16 ≤ 4 := by
  intro k
  cases k with
  | zero =>
    intro N h
    have : N = 0 := by omega
    subst this
    decide
  | succ k =>
    intro N h
    have e : N = N % 256 + 256 * (N / 256) := by omega
    have h4 := yd3 (N % 256) (by omega)
    have h5 := yp1_le 85 (N % 256)
    rw [e, yp1_s k _ (by omega), yp2_s k _ (by omega)]
    omega
theorem ypp_s (k : Nat) {a b : Nat} (ha : a < 256) (hb : b < 256 ^ k) : ypp (k + 1) (a + 256 * b) = ycn a.testBit 8 + 256 * ypp k b := by
  have h4 := yd3 a ha
  have h5 := yp1_le 85 a
  unfold ypp
  rw [yp1_s k _ ha, yp2_s k _ (by omega), yp3_s k _ h4.1 (yp2_16 k b hb), h4.2.2.2]
theorem ycn_c {f g : Nat → Bool} : ∀ n, (∀ i, i < n → f i = g i) → ycn f n = ycn g n
  | 0, _ => rfl
  | n + 1, h => by rw [ycn, ycn, ycn_c n (fun i q => h i (by omega)), h n (by omega)]
theorem ycn_add {f : Nat → Bool} (n : Nat) : ∀ m, ycn f (n + m) = ycn f n + ycn (fun i => f (n + i)) m
  | 0 => rfl
  | m + 1 => by
    show ycn f (n + m) + _ = _ + (ycn _ m + _)
    rw [ycn_add n m, Nat.add_assoc]
    rfl
theorem ycn_b {a b : Nat} (ha : a < 256) (m : Nat) : ycn (a + 256 * b).testBit (8 + m) = ycn a.testBit 8 + ycn b.testBit m := by
  rw [ycn_add]
  congr 1
  · refine ycn_c 8 fun i h => ?_
    have e : a = (a + 256 * b) % 2 ^ 8 := by omega
    have h2 : a.testBit i = ((a + 256 * b) % 2 ^ 8).testBit i := by rw [← e]
    rw [h2, Nat.testBit_mod_two_pow]
    simp [h]
  · refine ycn_c m fun i h => ?_
    have e : b = (a + 256 * b) / 2 ^ 8 := by omega
    have h2 : b.testBit i = ((a + 256 * b) / 2 ^ 8).testBit i := by rw [← e]
    rw [h2, Nat.testBit_div_two_pow, Nat.add_comm i 8]
theorem ycn_le (f : Nat → Bool) : ∀ n, ycn f n ≤ n
  | 0 => Nat.le_refl _
  | n + 1 => by
    have := ycn_le f n
    rw [ycn]
    split <;> omega
theorem yb4 {u0 u1 u2 u3 : Nat} (h0 : u0 ≤ 32) (h1 : u1 ≤ 32) (h2 : u2 ≤ 32) (h3 : u3 ≤ 32) : u0 + 256 * (u1 + 256 * (u2 + 256 * u3)) < 2 ^ 32 := by omega
theorem ypsum {p0 p1 p2 p3 p4 p5 p6 p7 s : Nat} (c0 : p0 ≤ 8) (c1 : p1 ≤ 8) (c2 : p2 ≤ 8) (c3 : p3 ≤ 8) (c4 : p4 ≤ 8) (c5 : p5 ≤ 8) (c6 : p6 ≤ 8) (c7 : p7 ≤ 8)
    (hs : s = p0 + 256 * (p1 + 256 * (p2 + 256 * (p3 + 256 * (p4 + 256 * (p5 + 256 * (p6 + 256 * p7))))))) :
    (s + s / 2 ^ 8 + (s + s / 2 ^ 8) / 2 ^ 16 + (s + s / 2 ^ 8 + (s + s / 2 ^ 8) / 2 ^ 16) / 2 ^ 32) % 128 = p0 + p1 + p2 + p3 + p4 + p5 + p6 + p7 := by
  subst hs
  have d1 : (p0 + 256 * (p1 + 256 * (p2 + 256 * (p3 + 256 * (p4 + 256 * (p5 + 256 * (p6 + 256 * p7))))))) / 2 ^ 8 = p1 + 256 * (p2 + 256 * (p3 + 256 * (p4 + 256 * (p5 + 256 * (p6 + 256 * p7))))) := by omega
  rw [d1]
  clear d1
  obtain ⟨q0, hq0⟩ : ∃ q, q = p0 + p1 := ⟨_, rfl⟩
  obtain ⟨q1, hq1⟩ : ∃ q, q = p1 + p2 := ⟨_, rfl⟩
  obtain ⟨q2, hq2⟩ : ∃ q, q = p2 + p3 := ⟨_, rfl⟩
  obtain ⟨q3, hq3⟩ : ∃ q, q = p3 + p4 := ⟨_, rfl⟩
  obtain ⟨q4, hq4⟩ : ∃ q, q = p4 + p5 := ⟨_, rfl⟩
  obtain ⟨q5, hq5⟩ : ∃ q, q = p5 + p6 := ⟨_, rfl⟩
  obtain ⟨q6, hq6⟩ : ∃ q, q = p6 + p7 := ⟨_, rfl⟩
  have d2 : p0 + 256 * (p1 + 256 * (p2 + 256 * (p3 + 256 * (p4 + 256 * (p5 + 256 * (p6 + 256 * p7)))))) + (p1 + 256 * (p2 + 256 * (p3 + 256 * (p4 + 256 * (p5 + 256 * (p6 + 256 * p7)))))) = q0 + 256 * (q1 + 256 * (q2 + 256 * (q3 + 256 * (q4 + 256 * (q5 + 256 * (q6 + 256 * p7)))))) := by omega
  rw [d2]
  have d3 : (q0 + 256 * (q1 + 256 * (q2 + 256 * (q3 + 256 * (q4 + 256 * (q5 + 256 * (q6 + 256 * p7))))))) / 2 ^ 16 = q2 + 256 * (q3 + 256 * (q4 + 256 * (q5 + 256 * (q6 + 256 * p7)))) := by omega
  rw [d3]
  have e4 : (q0 + 256 * (q1 + 256 * (q2 + 256 * (q3 + 256 * (q4 + 256 * (q5 + 256 * (q6 + 256 * p7)))))) + (q2 + 256 * (q3 + 256 * (q4 + 256 * (q5 + 256 * (q6 + 256 * p7)))))) = (q0 + q2 + 256 * (q1 + q3 + 256 * (q2 + q4 + 256 * (q3 + q5)))) + 2 ^ 32 * (q4 + q6 + 256 * (q5 + p7 + 256 * (q6 + 256 * p7))) := by
    simp only [Nat.mul_add, ← Nat.mul_assoc]
    omega
  have f4 : q0 + q2 + 256 * (q1 + q3 + 256 * (q2 + q4 + 256 * (q3 + q5))) < 2 ^ 32 := by
    exact yb4 (by omega) (by omega) (by omega) (by omega)
  have d4 : (q0 + 256 * (q1 + 256 * (q2 + 256 * (q3 + 256 * (q4 + 256 * (q5 + 256 * (q6 + 256 * p7)))))) + (q2 + 256 * (q3 + 256 * (q4 + 256 * (q5 + 256 * (q6 + 256 * p7)))))) / 2 ^ 32 = q4 + q6 + 256 * (q5 + p7 + 256 * (q6 + 256 * p7)) := by
    rw [e4, Nat.add_mul_div_left _ _ (by decide), Nat.div_eq_of_lt f4, Nat.zero_add]
  rw [d4]
  have e5 : (q0 + 256 * (q1 + 256 * (q2 + 256 * (q3 + 256 * (q4 + 256 * (q5 + 256 * (q6 + 256 * p7)))))) + (q2 + 256 * (q3 + 256 * (q4 + 256 * (q5 + 256 * (q6 + 256 * p7))))) + (q4 + q6 + 256 * (q5 + p7 + 256 * (q6 + 256 * p7)))) = (q0 + q2 + q4 + q6) + 128 * (2 * ((q1 + 256 * (q2 + 256 * (q3 + 256 * (q4 + 256 * (q5 + 256 * (q6 + 256 * p7)))))) + (q3 + 256 * (q4 + 256 * (q5 + 256 * (q6 + 256 * p7)))) + (q5 + p7 + 256 * (q6 + 256 * p7)))) := by
    clear d2 d3 d4 e4 f4
    omega
  rw [e5, Nat.add_mul_mod_self_left]
  clear d2 d3 d4 e4 f4 e5
  omega
theorem ypp_8 {N : Nat} (h : N < 2 ^ 64) : ∃ s, ypp 8 N = s ∧ s < 2 ^ 60 ∧
    (s + s / 2 ^ 8 + (s + s / 2 ^ 8) / 2 ^ 16 + (s + s / 2 ^ 8 + (s + s / 2 ^ 8) / 2 ^ 16) / 2 ^ 32) % 128 = ycn N.testBit 64 := by
  obtain ⟨a0, b0, rfl, l0, m0⟩ : ∃ a b, N = a + 256 * b ∧ a < 256 ∧ b < 256 ^ 7 := ⟨N % 256, N / 256, by omega, by omega, by omega⟩
  obtain ⟨a1, b1, rfl, l1, m1⟩ : ∃ a b, b0 = a + 256 * b ∧ a < 256 ∧ b < 256 ^ 6 := ⟨b0 % 256, b0 / 256, by omega, by omega, by omega⟩
  obtain ⟨a2, b2, rfl, l2, m2⟩ : ∃ a b, b1 = a + 256 * b ∧ a < 256 ∧ b < 256 ^ 5 := ⟨b1 % 256, b1 / 256, by omega, by omega, by omega⟩
  obtain ⟨a3, b3, rfl, l3, m3⟩ : ∃ a b, b2 = a + 256 * b ∧ a < 256 ∧ b < 256 ^ 4 := ⟨b2 % 256, b2 / 256, by omega, by omega, by omega⟩
  obtain ⟨a4, b4, rfl, l4, m4⟩ : ∃ a b, b3 = a + 256 * b ∧ a < 256 ∧ b < 256 ^ 3 := ⟨b3 % 256, b3 / 256, by omega, by omega, by omega⟩
  obtain ⟨a5, b5, rfl, l5, m5⟩ : ∃ a b, b4 = a + 256 * b ∧ a < 256 ∧ b < 256 ^ 2 := ⟨b4 % 256, b4 / 256, by omega, by omega, by omega⟩
  obtain ⟨a6, b6, rfl, l6, m6⟩ : ∃ a b, b5 = a + 256 * b ∧ a < 256 ∧ b < 256 ^ 1 := ⟨b5 % 256, b5 / 256, by omega, by omega, by omega⟩
  have m7 : b6 < 256 := by omega
  have z0 : ypp 0 0 = 0 := by decide
  have e7 : ypp 1 b6 = ycn b6.testBit 8 := by
    have := ypp_s 0 (b := 0) m7 (by decide)
    rw [z0] at this
    simpa using this
  rw [ypp_s 7 l0 m0, ypp_s 6 l1 m1, ypp_s 5 l2 m2, ypp_s 4 l3 m3, ypp_s 3 l4 m4, ypp_s 2 l5 m5, ypp_s 1 l6 m6, e7]
  rw [show 64 = 8 + 56 from rfl, ycn_b l0, show 56 = 8 + 48 from rfl, ycn_b l1, show 48 = 8 + 40 from rfl, ycn_b l2, show 40 = 8 + 32 from rfl, ycn_b l3, show 32 = 8 + 24 from rfl, ycn_b l4, show 24 = 8 + 16 from rfl, ycn_b l5, show 16 = 8 + 8 from rfl, ycn_b l6]
  have c0 := ycn_le a0.testBit 8
  have c1 := ycn_le a1.testBit 8
  have c2 := ycn_le a2.testBit 8
  have c3 := ycn_le a3.testBit 8
  have c4 := ycn_le a4.testBit 8
  have c5 := ycn_le a5.testBit 8
  have c6 := ycn_le a6.testBit 8
  have c7 := ycn_le b6.testBit 8
  refine ⟨_, rfl, ?_, ?_⟩
  · generalize ycn a0.testBit 8 = p0 at *
    generalize ycn a1.testBit 8 = p1 at *
    generalize ycn a2.testBit 8 = p2 at *
    generalize ycn a3.testBit 8 = p3 at *
    generalize ycn a4.testBit 8 = p4 at *
    generalize ycn a5.testBit 8 = p5 at *
    generalize ycn a6.testBit 8 = p6 at *
    generalize ycn b6.testBit 8 = p7 at *
    clear h l0 m0 l1 m1 l2 m2 l3 m3 l4 m4 l5 m5 l6 m6 m7 z0 e7
    omega
  · rw [ypsum c0 c1 c2 c3 c4 c5 c6 c7 rfl]
    omega
theorem zu64_add (x y : Int) : zu64 (zar 12 x y) = (zu64 x + zu64 y) % 2 ^ 64 := by
  have h : (Int.bmod (x + y) 18446744073709551616) % 18446744073709551616 = (x + y) % 18446744073709551616 := Int.bmod_emod (m := 18446744073709551616)
  rw [za_12]
  unfold zu64 zw64
  rw [h]
  omega
theorem zu64_sub (x y : Int) : zu64 (zar 13 x y) = (zu64 x + (2 ^ 64 - zu64 y)) % 2 ^ 64 := by
  have h : (Int.bmod (x - y) 18446744073709551616) % 18446744073709551616 = (x - y) % 18446744073709551616 := Int.bmod_emod (m := 18446744073709551616)
  rw [za_13]
  unfold zu64 zw64
  rw [h]
  omega
theorem zand_127 (z : Int) : zar 6 (zar 23 z 0) 127 = ((zu64 z % 128 : Nat) : Int) := by
  have h : (Int.bmod z 4294967296) % 4294967296 = z % 4294967296 := Int.bmod_emod (m := 4294967296)
  have h1 : zu32 (zw32 z) &&& 127 = zu32 (zw32 z) % 2 ^ 7 := Nat.and_two_pow_sub_one_eq_mod _ 7
  have h2 : zu32 127 = 127 := rfl
  have h3 : zu32 (zw32 z) % 2 ^ 7 = zu64 z % 128 := by
    unfold zu32 zu64 zw32
    rw [h]
    omega
  have h4 := Nat.mod_lt (zu64 z) (show 0 < 128 by decide)
  rw [za_6, za_23, zand, h2, h1, h3, zw32_i (by omega)]
theorem s_338 (w : zW) (d : Nat) (x : Int) (σ : zMem) : zcall w d 338 [zJ x] σ = some (((ycn (zu64 x).testBit 64 : Nat) : Int), σ) := by
  rw [eJ13_bitCount_95d88]
  congr 2
  have hN := zu64_lt x
  have m5 : zu64 6148914691236517205 = ym5 8 := by decide +kernel
  have m3 : zu64 3689348814741910323 = ym3 8 := by decide +kernel
  have mF : zu64 1085102592571150095 = ymF 8 := by decide +kernel
  have e1 : zu64 (zar 13 x (zar 17 (zar 21 x 1) 6148914691236517205)) = yp1 (ym5 8) (zu64 x) := by
    have h1 : zu64 x / 2 &&& ym5 8 ≤ zu64 x / 2 := Nat.and_le_left
    rw [zu64_sub, zu64_and, zu64_shr x (by decide), m5, yp1]
    show (zu64 x + (2 ^ 64 - (zu64 x / 2 &&& ym5 8))) % 2 ^ 64 = _
    omega
  have l1 : yp1 (ym5 8) (zu64 x) < 2 ^ 64 := by have := yp1_le (ym5 8) (zu64 x); omega
  generalize zar 13 x (zar 17 (zar 21 x 1) 6148914691236517205) = t1 at *
  have q3 : ym3 8 < 2 ^ 62 := by decide
  have e2 : zu64 (zar 12 (zar 17 t1 3689348814741910323) (zar 17 (zar 21 t1 2) 3689348814741910323)) = yp2 (ym3 8) (zu64 t1) := by
    have h1 : zu64 t1 &&& ym3 8 ≤ ym3 8 := Nat.and_le_right
    have h2 : zu64 t1 / 4 &&& ym3 8 ≤ ym3 8 := Nat.and_le_right
    rw [zu64_add, zu64_and, zu64_and, zu64_shr t1 (by decide), m3, yp2]
    show ((zu64 t1 &&& ym3 8) + (zu64 t1 / 4 &&& ym3 8)) % 2 ^ 64 = _
    omega
  have l2 : yp2 (ym3 8) (zu64 t1) < 2 ^ 63 := by
    have h1 : zu64 t1 &&& ym3 8 ≤ ym3 8 := Nat.and_le_right
    have h2 : zu64 t1 / 4 &&& ym3 8 ≤ ym3 8 := Nat.and_le_right
    unfold yp2
    omega
  generalize zar 12 (zar 17 t1 3689348814741910323) (zar 17 (zar 21 t1 2) 3689348814741910323) = t2 at *
  have e3 : zu64 (zar 17 (zar 12 t2 (zar 21 t2 4)) 1085102592571150095) = yp3 (ymF 8) (zu64 t2) := by
    rw [zu64_and, zu64_add, zu64_shr t2 (by decide), mF, yp3]
    show ((zu64 t2 + zu64 t2 / 16) % 2 ^ 64 &&& ymF 8) = _
    rw [Nat.mod_eq_of_lt (by omega)]
  generalize zar 17 (zar 12 t2 (zar 21 t2 4)) 1085102592571150095 = t3 at *
  obtain ⟨s, p1, p2, p3⟩ := ypp_8 hN
  have e3' : zu64 t3 = s := by rw [e3, e2, e1, ← p1, ypp]
  have e4 : zu64 (zar 12 t3 (zar 21 t3 8)) = s + s / 2 ^ 8 := by
    rw [zu64_add, zu64_shr t3 (by decide), e3']
    show (s + s / 2 ^ 8) % 2 ^ 64 = _
    omega
  generalize zar 12 t3 (zar 21 t3 8) = t4 at *
  have e5 : zu64 (zar 12 t4 (zar 21 t4 16)) = s + s / 2 ^ 8 + (s + s / 2 ^ 8) / 2 ^ 16 := by
    rw [zu64_add, zu64_shr t4 (by decide), e4]
    show (s + s / 2 ^ 8 + (s + s / 2 ^ 8) / 2 ^ 16) % 2 ^ 64 = _
    omega
  generalize zar 12 t4 (zar 21 t4 16) = t5 at *
  rw [zand_127, zu64_add, zu64_shr t5 (by decide), e5, ← p3]
  show (((s + s / 2 ^ 8 + (s + s / 2 ^ 8) / 2 ^ 16 + (s + s / 2 ^ 8 + (s + s / 2 ^ 8) / 2 ^ 16) / 2 ^ 32) % 2 ^ 64 % 128 : Nat) : Int) = _
  congr 1
  rw [Nat.mod_mod_of_dvd _ (by decide)]
