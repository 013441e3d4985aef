section
/-! Fractions in lowest terms -/
def zG (x y : Int) : Int := (Int.gcd x y : Int)
theorem yg_0 (a : Nat) : Nat.gcd a 0 = a := Nat.gcd_zero_right a
theorem yg_s {a b : Nat} : Nat.gcd b (a % b) = Nat.gcd a b := by rw [Nat.gcd_comm a b, Nat.gcd_rec b a, Nat.gcd_comm]
theorem l_17 (w : zW) (d : Nat) (f x1 x2 : Int) (σ : zMem) : ∀ (k a b : Nat) (i : Int) (v : zV), b < 2 ^ k → 0 ≤ i → i + 2 * k ≤ 200 →
    zden w (d + 1) 17 8 [zA 2 2 f, zJ x1, zU, zJ x2, zU, zJ (a : Int), zU, zJ (b : Int), zU, zI i, v, zU] [] σ
      = if (1 : Int) < (Nat.gcd a b : Int) then some (0, zup (zup σ f 0 (zw64 (x1.tdiv (Nat.gcd a b : Int)))) f 1 (zw64 (x2.tdiv (Nat.gcd a b : Int)))) else some (0, zup (zup σ f 0 x1) f 1 x2) := by
  have fin : ∀ (a : Nat) (i : Int) (v : zV), zden w (d + 1) 17 8 [zA 2 2 f, zJ x1, zU, zJ x2, zU, zJ (a : Int), zU, zJ ((0 : Nat) : Int), zU, zI i, v, zU] [] σ
      = if (1 : Int) < (Nat.gcd a 0 : Int) then some (0, zup (zup σ f 0 (zw64 (x1.tdiv (Nat.gcd a 0 : Int)))) f 1 (zw64 (x2.tdiv (Nat.gcd a 0 : Int)))) else some (0, zup (zup σ f 0 x1) f 1 x2) := by
    intro a i v
    rw [hX1_put_8, yg_0]
    simp only [zcmp_eq, zcmp_gt, za_15]
    have z0 : (((0 : Nat)) : Int) = 0 := rfl
    by_cases ci : i < 200
    · rw [if_pos ci, if_pos z0]
      by_cases c : (1 : Int) < (a : Int)
      · rw [if_pos c, if_neg (by omega), if_neg (by omega), if_pos c]
      · rw [if_neg c, if_neg c]
    · rw [if_neg ci]
      by_cases c : (1 : Int) < (a : Int)
      · rw [if_pos c, if_neg (by omega), if_neg (by omega), if_pos c]
      · rw [if_neg c, if_neg c]
  intro k
  induction k with
  | zero =>
    intro a b i v hb h0 hi
    have : b = 0 := by omega
    subst this
    exact fin a i v
  | succ k ih =>
    intro a b i v hb h0 hi
    by_cases hz : b = 0
    · subst hz; exact fin a i v
    · have e1 : zar 4 (a : Int) (b : Int) = ((a % b : Nat) : Int) := by rw [za_4]; exact (Int.ofNat_tmod a b).symm
      rw [hX1_put_8]
      simp only [zcmp_eq]
      rw [if_pos (by omega), if_neg (by omega), if_neg (by omega), e1, ← yg_s]
      by_cases hy : a % b = 0
      · rw [hy]; exact fin _ _ _
      · have e2 : zar 4 (b : Int) ((a % b : Nat) : Int) = ((b % (a % b) : Nat) : Int) := by rw [za_4]; exact (Int.ofNat_tmod b (a % b)).symm
        have e3 : zar 0 i 1 = i + 1 := by rw [za_0, zw32_i (by omega)]
        have e4 : zar 0 (i + 1) 1 = i + 2 := by rw [za_0, zw32_i (by omega)]; omega
        rw [hX1_put_8]
        simp only [zcmp_eq]
        rw [e3, if_pos (by omega), if_neg (by omega), if_neg (by omega), e2, e4, ← yg_s]
        apply ih
        · have h1 : a % b < b := Nat.mod_lt _ (by omega)
          have h2 : b % (a % b) < a % b := Nat.mod_lt _ (by omega)
          have h3 : b = (a % b) * (b / (a % b)) + b % (a % b) := (Nat.div_add_mod _ _).symm
          have h4 : 1 ≤ b / (a % b) := Nat.div_pos (by omega) (by omega)
          have h5 : a % b * 1 ≤ (a % b) * (b / (a % b)) := Nat.mul_le_mul_left _ h4
          rw [Nat.pow_succ] at hb
          omega
        · omega
        · omega
theorem ymx (x : Int) : max x (-x) = (x.natAbs : Int) := by omega
/-- W units are n over e in lowest terms -/
def yF (W n e : Int) : Prop := 0 < e ∧ n * zONE = W * e ∧ Int.gcd n e = 1
theorem s_17 (w : zW) {d : Nat} (hd : 1 ≤ d) (f : Int) {x1 x2 : Int} (h1 : -9223372036854775808 < x1 ∧ x1 < 9223372036854775808) (h2 : 0 < x2 ∧ x2 < 9223372036854775808) (σ : zMem) :
    zcall w d 17 [zA 2 2 f, zJ x1, zJ x2] σ = some (0, zup (zup σ f 0 (x1 / zG x1 x2)) f 1 (x2 / zG x1 x2)) := by
  obtain ⟨d, rfl⟩ : ∃ e, d = e + 1 := ⟨d - 1, by omega⟩
  have e2 : max x2 (-x2) = ((x2.natAbs : Nat) : Int) := ymx x2
  rw [eX1_put, s_340 w d (by omega), Option.bind_some]
  dsimp only
  rw [s_340 w d (by omega), Option.bind_some]
  dsimp only
  rw [ymx, ymx, l_17 w d f x1 x2 σ 64 x2.natAbs x1.natAbs 0 zU (by omega) (by omega) (by decide)]
  have eg : ((Nat.gcd x2.natAbs x1.natAbs : Nat) : Int) = zG x1 x2 := by
    rw [Nat.gcd_comm]; rfl
  rw [eg]
  have p1 : zG x1 x2 ∣ x1 := Int.gcd_dvd_left ..
  have p2 : zG x1 x2 ∣ x2 := Int.gcd_dvd_right ..
  have p0 : 0 < zG x1 x2 := by
    have : 0 < Int.gcd x1 x2 := Int.gcd_pos_of_ne_zero_right _ (by omega)
    unfold zG; omega
  obtain ⟨m1, q1⟩ := p1
  obtain ⟨m2, q2⟩ := p2
  by_cases c : 1 < zG x1 x2
  · have k1 : x1 / zG x1 x2 = m1 := by
      have := Int.mul_ediv_cancel_left m1 (show zG x1 x2 ≠ 0 by omega)
      rw [← q1] at this; exact this
    have k2 : x2 / zG x1 x2 = m2 := by
      have := Int.mul_ediv_cancel_left m2 (show zG x1 x2 ≠ 0 by omega)
      rw [← q2] at this; exact this
    have t1 : x1.tdiv (zG x1 x2) = m1 := by
      have := Int.mul_tdiv_cancel_left m1 (show zG x1 x2 ≠ 0 by omega)
      rw [← q1] at this; exact this
    have t2 : x2.tdiv (zG x1 x2) = m2 := by
      have := Int.mul_tdiv_cancel_left m2 (show zG x1 x2 ≠ 0 by omega)
      rw [← q2] at this; exact this
    have b : ∀ x m g : Int, 0 < g → x = g * m → (-9223372036854775808 < x ∧ x < 9223372036854775808) → -9223372036854775808 < m ∧ m < 9223372036854775808 := by
      intro x m g hg hx hb
      have e1 : m.natAbs ≤ x.natAbs := by
        rw [hx, Int.natAbs_mul]
        exact Nat.le_mul_of_pos_left _ (by omega)
      omega
    have b1 := b x1 m1 _ p0 q1 h1
    have b2 := b x2 m2 _ p0 q2 (by omega)
    rw [if_pos c, t1, t2, k1, k2, zw64_i (by omega), zw64_i (by omega)]
  · have : zG x1 x2 = 1 := by omega
    rw [if_neg c, this, Int.ediv_one, Int.ediv_one]
theorem yF_put {W x1 x2 : Int} (h2 : 0 < x2) (h : x1 * zONE = W * x2) : yF W (x1 / zG x1 x2) (x2 / zG x1 x2) := by
  have p0 : 0 < Int.gcd x1 x2 := Int.gcd_pos_of_ne_zero_right _ (by omega)
  have p1 : zG x1 x2 ∣ x1 := Int.gcd_dvd_left ..
  have p2 : zG x1 x2 ∣ x2 := Int.gcd_dvd_right ..
  have q : (0 : Int) < zG x1 x2 := by unfold zG; omega
  refine ⟨Int.ediv_pos_of_pos_of_dvd h2 (by omega) p2, ?_, Int.gcd_ediv_gcd_ediv_gcd p0⟩
  obtain ⟨m1, q1⟩ := p1
  obtain ⟨m2, q2⟩ := p2
  have k1 : x1 / zG x1 x2 = m1 := by
    have := Int.mul_ediv_cancel_left m1 (show zG x1 x2 ≠ 0 by omega)
    rw [← q1] at this; exact this
  have k2 : x2 / zG x1 x2 = m2 := by
    have := Int.mul_ediv_cancel_left m2 (show zG x1 x2 ≠ 0 by omega)
    rw [← q2] at this; exact this
  rw [k1, k2]
  have e : zG x1 x2 * (m1 * zONE) = zG x1 x2 * (W * m2) := by
    rw [← Int.mul_assoc, ← q1, h, Int.mul_left_comm, ← q2]
  exact Int.eq_of_mul_eq_mul_left (by omega) e
end
section
theorem ydvd {e n x : Int} (h : e ∣ n * x) (g : Int.gcd n e = 1) : e ∣ x := by
  have := Int.dvd_mul_gcd_iff_dvd_mul (k := e) (n := x) (m := n) |>.2 (by rw [Int.mul_comm]; exact h)
  rw [Int.gcd_comm, g] at this
  rw [show x = x * ((1 : Nat) : Int) by omega]
  exact this
/-! Which worths there are: how large, and over which denominators -/
def yM (b : Int) : Int := if b ≤ 0 then 1 else if b = 1 then 9 else 729
def yN (b : Int) : Int := if b ≤ 0 then 6350400 else if b = 1 then 2520 else 1
def yQ (b D W : Int) : Prop := (∃ m k, 0 < m ∧ m ≤ yM b ∧ W * m = 6350400 * k) ∧ (∃ k, W = yN b * k) ∧ -((702768 + 99 * D) * zONE) ≤ W ∧ W ≤ (702768 + 99 * D) * zONE
theorem yM_b (b : Int) : 1 ≤ yM b ∧ yM b ≤ 729 := by
  unfold yM
  split
  · omega
  · split <;> omega
theorem yQ_up {b b' D D' W : Int} (hb : 0 ≤ b) (h : b ≤ b') (g : D ≤ D') (q : yQ b D W) : yQ b' D' W := by
  obtain ⟨⟨m, k, m0, m1, mk⟩, ⟨j, hj⟩, l, u⟩ := q
  refine ⟨⟨m, k, m0, ?_, mk⟩, ?_, ?_, ?_⟩
  · unfold yM at m1 ⊢
    (repeat' split at m1) <;> (repeat' split) <;> omega
  · have : b' ≤ 0 ∨ (b ≤ 0 ∧ b' = 1) ∨ (b = 1 ∧ b' = 1) ∨ 2 ≤ b' := by omega
    rcases this with c | c | c | c
    · exact ⟨j, by rw [hj, yN, yN, if_pos (by omega), if_pos (by omega)]⟩
    · exact ⟨2520 * j, by rw [hj, yN, yN, if_pos (by omega), if_neg (by omega), if_pos (by omega)]; omega⟩
    · exact ⟨j, by rw [hj, c.1, c.2]⟩
    · exact ⟨W, by rw [yN, if_neg (by omega), if_neg (by omega)]; omega⟩
  · unfold zONE at *; omega
  · unfold zONE at *; omega
theorem yQ_neg {b D W : Int} (q : yQ b D W) : yQ b D (-W) := by
  obtain ⟨⟨m, k, m0, m1, mk⟩, ⟨j, hj⟩, l, u⟩ := q
  refine ⟨⟨m, -k, m0, m1, ?_⟩, ⟨-j, ?_⟩, by omega, by omega⟩
  · rw [Int.neg_mul, mk]; omega
  · rw [hj]; exact (Int.mul_neg _ _).symm
theorem yQ_abs {b D W : Int} (q : yQ b D W) : yQ b D (max W (-W)) := by
  by_cases h : W ≤ -W
  · rw [Int.max_eq_right h]; exact yQ_neg q
  · rw [Int.max_eq_left (by omega)]; exact q
theorem yQ_max {b D W V : Int} (q : yQ b D W) (p : yQ b D V) : yQ b D (max W V) := by
  by_cases h : W ≤ V
  · rw [Int.max_eq_right h]; exact p
  · rw [Int.max_eq_left (by omega)]; exact q
theorem yQ_min {b D W V : Int} (q : yQ b D W) (p : yQ b D V) : yQ b D (min W V) := by
  by_cases h : W ≤ V
  · rw [Int.min_eq_left h]; exact q
  · rw [Int.min_eq_right (by omega)]; exact p
theorem yQ_s {v : Int} (h : -702768 ≤ v ∧ v ≤ 702768) : yQ 0 0 (v * zONE) := by
  refine ⟨⟨1, v * 2520, by omega, by decide, by unfold zONE; omega⟩, ⟨v * 2520, by show _ = 6350400 * _; unfold zONE; omega⟩, ?_, ?_⟩ <;> (unfold zONE; omega)
theorem y2520 {h : Int} (a : 1 ≤ h ∧ h ≤ 9) : 2520 = 2520 / h * h ∧ zONE / h = 6350400 * (2520 / h) := by
  have : h = 1 ∨ h = 2 ∨ h = 3 ∨ h = 4 ∨ h = 5 ∨ h = 6 ∨ h = 7 ∨ h = 8 ∨ h = 9 := by omega
  rcases this with rfl | rfl | rfl | rfl | rfl | rfl | rfl | rfl | rfl <;> decide
theorem ymul_le {g x y : Int} (h : 0 ≤ x) (a : -y ≤ g ∧ g ≤ y) : -(x * y) ≤ x * g ∧ x * g ≤ x * y := by
  refine ⟨?_, Int.mul_le_mul_of_nonneg_left a.2 h⟩
  rw [← Int.mul_neg]
  exact Int.mul_le_mul_of_nonneg_left a.1 h
theorem yONE_h {h g : Int} (a : 1 ≤ h ∧ h ≤ 9) (c : -99 ≤ g ∧ g ≤ 99) : -(99 * zONE) ≤ zONE / h * g ∧ zONE / h * g ≤ 99 * zONE := by
  have b : 0 ≤ zONE / h ∧ zONE / h ≤ zONE := by
    have : h = 1 ∨ h = 2 ∨ h = 3 ∨ h = 4 ∨ h = 5 ∨ h = 6 ∨ h = 7 ∨ h = 8 ∨ h = 9 := by omega
    rcases this with rfl | rfl | rfl | rfl | rfl | rfl | rfl | rfl | rfl <;> decide
  have := ymul_le (x := zONE / h) b.1 c
  unfold zONE at *; omega
theorem yQ_gr {b D A h g : Int} (q : yQ b D A) (a : 1 ≤ h ∧ h ≤ 9) (c : -99 ≤ g ∧ g ≤ 99) : yQ b (D + 1) (A - zONE / h * g) := by
  have e := yONE_h a c
  obtain ⟨⟨m, k, m0, m1, mk⟩, ⟨j, hj⟩, l, u⟩ := q
  have e2 := (y2520 a).2
  refine ⟨⟨m, k - 2520 / h * g * m, m0, m1, ?_⟩, ?_, ?_, ?_⟩
  · rw [Int.sub_mul, mk, e2, Int.mul_sub]; simp only [Int.mul_assoc]
  · rw [hj, e2]
    unfold yN
    split
    · exact ⟨j - 2520 / h * g, by rw [Int.mul_sub, Int.mul_assoc]⟩
    · split
      · exact ⟨j - 2520 * (2520 / h * g), by rw [Int.mul_sub]; generalize 2520 / h = u; rw [Int.mul_assoc]; omega⟩
      · exact ⟨1 * j - 6350400 * (2520 / h) * g, by omega⟩
  · unfold zONE at *; omega
  · unfold zONE at *; omega
/-- a blend's division leaves no rest -/
theorem yQ_ex {b D A n t : Int} {B : Int} (q : yQ b D A) (p : yQ b D B) (hb : 0 ≤ b ∧ b ≤ 1) (a : 1 ≤ n ∧ n ≤ 9) : ∃ K, A * (n - t) + B * t = (if b = 0 then 6350400 else 2520) * K ∧ (A * (n - t) + B * t) / n * n = A * (n - t) + B * t
    ∧ (A * (n - t) + B * t) / n = (if b = 0 then 6350400 else 2520) / 2520 * (2520 / n * K) := by
  obtain ⟨-, ⟨j, hj⟩, -, -⟩ := q
  obtain ⟨-, ⟨i, hi⟩, -, -⟩ := p
  have eN : yN b = (if b = 0 then 6350400 else 2520) := by
    unfold yN
    split
    · rw [if_pos (by omega)]
    · rw [if_pos (by omega), if_neg (by omega)]
  have e1 : A * (n - t) + B * t = (if b = 0 then 6350400 else 2520) * (j * (n - t) + i * t) := by
    rw [hj, hi, eN, Int.mul_add]; simp only [Int.mul_assoc]
  have e2 : (if b = 0 then (6350400 : Int) else 2520) = (if b = 0 then 6350400 else 2520) / 2520 * 2520 := by split <;> rfl
  have e3 : A * (n - t) + B * t = (if b = 0 then 6350400 else 2520) / 2520 * (2520 / n * (j * (n - t) + i * t)) * n := by
    rw [e1]
    generalize j * (n - t) + i * t = K
    have := (y2520 a).1
    generalize hu : 2520 / n = u at *
    have h4 : ∀ c : Int, c * 2520 * K = c * (u * K) * n := by
      intro c
      rw [this]; simp only [Int.mul_assoc, Int.mul_left_comm, Int.mul_comm]
    rw [← h4, ← e2]
  have e4 : (A * (n - t) + B * t) / n = (if b = 0 then 6350400 else 2520) / 2520 * (2520 / n * (j * (n - t) + i * t)) := by
    rw [e3]; exact Int.mul_ediv_cancel _ (by omega)
  exact ⟨_, e1, by rw [e4, ← e3], e4⟩
theorem yQ_bl {b D A n t : Int} {B : Int} (q : yQ b D A) (p : yQ b D B) (hb : 0 ≤ b ∧ b ≤ 1) (a : 1 ≤ n ∧ n ≤ 9) (c : 0 ≤ t ∧ t ≤ n) : yQ (b + 1) D ((A * (n - t) + B * t) / n) := by
  obtain ⟨K, -, e2, e3⟩ := yQ_ex (t := t) q p hb a
  generalize hW : (A * (n - t) + B * t) / n = W at *
  obtain ⟨⟨m, k, m0, m1, mk⟩, -, l, u⟩ := q
  obtain ⟨⟨m', k', m0', m1', mk'⟩, -, l', u'⟩ := p
  refine ⟨⟨m * m' * n, k * m' * (n - t) + k' * m * t, Int.mul_pos (Int.mul_pos m0 m0') (by omega), ?_, ?_⟩, ?_, ?_, ?_⟩
  · have : b = 0 ∨ b = 1 := by omega
    rcases this with rfl | rfl
    · have x1 : m = 1 := by have : yM 0 = 1 := rfl; omega
      have x2 : m' = 1 := by have : yM 0 = 1 := rfl; omega
      rw [x1, x2]; show _ ≤ (9 : Int); omega
    · have x0 : yM 1 = 9 := rfl
      rw [x0] at m1 m1'
      have y1 : m * m' ≤ 9 * 9 := Int.mul_le_mul m1 m1' (by omega) (by omega)
      have y2 : m * m' * n ≤ (9 * 9) * 9 := Int.mul_le_mul y1 a.2 (by omega) (by omega)
      exact y2
  · have : W * (m * m' * n) = (W * n) * (m * m') := by simp only [Int.mul_assoc, Int.mul_left_comm, Int.mul_comm]
    rw [this, e2]
    have h1 : (A * (n - t) + B * t) * (m * m') = (A * m) * (m' * (n - t)) + (B * m') * (m * t) := by
      rw [Int.add_mul]; simp only [Int.mul_assoc, Int.mul_left_comm, Int.mul_comm]
    rw [h1, mk, mk', Int.mul_add]; simp only [Int.mul_assoc]
  · have : b = 0 ∨ b = 1 := by omega
    rcases this with rfl | rfl
    · exact ⟨_, e3⟩
    · exact ⟨_, (Int.one_mul W).symm⟩
  · generalize (702768 + 99 * D) * zONE = V at *
    have h1 : A * (n - t) ≥ -V * (n - t) := Int.mul_le_mul_of_nonneg_right l (by omega)
    have h2 : B * t ≥ -V * t := Int.mul_le_mul_of_nonneg_right l' (by omega)
    have h3 : -V * n ≤ W * n := by
      rw [e2, show -V * n = -V * (n - t) + -V * t by rw [← Int.mul_add]; congr 1; omega]
      omega
    exact Int.le_of_mul_le_mul_right h3 (by omega)
  · generalize (702768 + 99 * D) * zONE = V at *
    have h1 : A * (n - t) ≤ V * (n - t) := Int.mul_le_mul_of_nonneg_right u (by omega)
    have h2 : B * t ≤ V * t := Int.mul_le_mul_of_nonneg_right u' (by omega)
    have h3 : W * n ≤ V * n := by
      rw [e2, show V * n = V * (n - t) + V * t by rw [← Int.mul_add]; congr 1; omega]
      omega
    exact Int.le_of_mul_le_mul_right h3 (by omega)
/-- how large numerators and denominators are -/
theorem yF_b {b D W n e : Int} (f : yF W n e) (q : yQ b D W) (hD : 0 ≤ D ∧ D ≤ 6) : e ≤ 2520 * yM b ∧ -(703362 * e) ≤ n ∧ n ≤ 703362 * e := by
  obtain ⟨e0, fe, fg⟩ := f
  obtain ⟨⟨m, k, m0, m1, mk⟩, -, l, u⟩ := q
  refine ⟨?_, ?_⟩
  · have h1 : (6350400 : Int) * (n * 2520 * m) = 6350400 * (e * k) := by
      have h2 : 6350400 * (n * 2520 * m) = n * zONE * m := by
        rw [← Int.mul_assoc, ← Int.mul_assoc, Int.mul_comm 6350400 n, Int.mul_assoc n]; rfl
      rw [h2, fe, Int.mul_right_comm, mk, Int.mul_assoc, Int.mul_comm k e]
    have h3 : n * 2520 * m = e * k := Int.eq_of_mul_eq_mul_left (by decide) h1
    have h4 : e ∣ 2520 * m := by
      have : e ∣ n * (2520 * m) := ⟨k, by rw [← Int.mul_assoc]; exact h3⟩
      exact ydvd this fg
    have := Int.le_of_dvd (by omega) h4
    omega
  · have V : (702768 + 99 * D) * zONE ≤ 703362 * zONE := Int.mul_le_mul_of_nonneg_right (by omega) (by decide)
    have h1 : n * zONE ≤ 703362 * e * zONE := by
      rw [fe, Int.mul_right_comm]
      exact Int.mul_le_mul_of_nonneg_right (by omega) (by omega)
    have h2 : -(703362 * e) * zONE ≤ n * zONE := by
      rw [fe, ← Int.neg_mul, Int.mul_right_comm]
      exact Int.mul_le_mul_of_nonneg_right (by rw [Int.neg_mul]; omega) (by omega)
    exact ⟨Int.le_of_mul_le_mul_right h2 (by decide), Int.le_of_mul_le_mul_right h1 (by decide)⟩
/-- larger as fractions is larger as worths -/
theorem yF_lt {W V n e m f : Int} (x : yF W n e) (y : yF V m f) : m * e < n * f ↔ V < W := by
  obtain ⟨e0, x1, -⟩ := x
  obtain ⟨f0, y1, -⟩ := y
  have k : 0 < e * f := Int.mul_pos e0 f0
  have a : n * f * zONE = W * (e * f) := by rw [Int.mul_right_comm, x1, Int.mul_assoc]
  have b : m * e * zONE = V * (e * f) := by rw [Int.mul_right_comm, y1, Int.mul_assoc, Int.mul_comm f e]
  constructor
  · intro h
    apply Classical.byContradiction
    intro c
    have h1 : W * (e * f) ≤ V * (e * f) := Int.mul_le_mul_of_nonneg_right (by omega) (by omega)
    rw [← a, ← b] at h1
    have := Int.le_of_mul_le_mul_right h1 (by decide)
    omega
  · intro h
    apply Classical.byContradiction
    intro c
    have h1 : n * f * zONE ≤ m * e * zONE := Int.mul_le_mul_of_nonneg_right (by omega) (by decide)
    rw [a, b] at h1
    have := Int.le_of_mul_le_mul_right h1 k
    omega
theorem yF_neg {W n e : Int} (x : yF W n e) : yF (-W) (-n) e := ⟨x.1, by rw [Int.neg_mul, x.2.1, Int.neg_mul], by rw [Int.neg_gcd]; exact x.2.2⟩
theorem yF_abs {W n e : Int} (x : yF W n e) : yF (max W (-W)) (max n (-n)) e := by
  have s : 0 ≤ n ↔ 0 ≤ W := by
    obtain ⟨e0, x1, -⟩ := x
    constructor
    · intro h
      apply Classical.byContradiction
      intro c
      have : W * e < 0 := Int.mul_neg_of_neg_of_pos (by omega) e0
      unfold zONE at x1; omega
    · intro h
      have : 0 ≤ W * e := Int.mul_nonneg h (by omega)
      unfold zONE at x1; omega
  by_cases c : 0 ≤ n
  · rw [Int.max_eq_left (by omega), Int.max_eq_left (by omega)]; exact x
  · rw [Int.max_eq_right (by omega), Int.max_eq_right (by omega)]; exact yF_neg x
/-- the fraction is the one in lowest terms -/
theorem yF_u {W n e : Int} (x : yF W n e) : n = W / zG W zONE ∧ e = zONE / zG W zONE := by
  obtain ⟨e0, x1, g⟩ := x
  have d1 : e ∣ zONE := by
    have : e ∣ n * zONE := ⟨W, by rw [x1, Int.mul_comm]⟩
    exact ydvd this g
  obtain ⟨k, hk⟩ := d1
  have k0 : 0 < k := by
    apply Classical.byContradiction
    intro c
    have : e * k ≤ 0 := Int.mul_nonpos_of_nonneg_of_nonpos (by omega) (by omega)
    unfold zONE at hk; omega
  have hW : W = n * k := by
    have : e * (n * k) = e * W := by rw [Int.mul_left_comm, ← hk, x1, Int.mul_comm]
    exact (Int.eq_of_mul_eq_mul_left (by omega) this).symm
  have hG : zG W zONE = k := by
    unfold zG
    rw [hW, hk, Int.gcd_mul_right, g]
    omega
  rw [hG]
  refine ⟨?_, ?_⟩
  · rw [hW]; exact (Int.mul_ediv_cancel _ (by omega)).symm
  · rw [hk]; exact (Int.mul_ediv_cancel _ (by omega)).symm
end
section
theorem yF_0 {W n e : Int} (x : yF W n e) : (0 < n ↔ 0 < W) ∧ (n < 0 ↔ W < 0) := by
  obtain ⟨e0, x1, -⟩ := x
  refine ⟨⟨fun c => ?_, fun c => ?_⟩, ⟨fun c => ?_, fun c => ?_⟩⟩
  · have : 0 < W * e := by rw [← x1]; exact Int.mul_pos c (by decide)
    exact Int.pos_of_mul_pos_left this e0
  · have : 0 < W * e := Int.mul_pos c e0
    unfold zONE at x1; omega
  · have : 0 < (-W) * e := by rw [Int.neg_mul, ← x1]; unfold zONE; omega
    have := Int.pos_of_mul_pos_left this e0
    omega
  · have : W * e < 0 := Int.mul_neg_of_neg_of_pos c e0
    unfold zONE at x1; omega
theorem yF_ls {W n e g h : Int} (x : yF W n e) (a : 1 ≤ h ∧ h ≤ 9) : (n * h - g * e) * zONE = (W - zONE / h * g) * (e * h) := by
  have e1 : zONE = zONE / h * h := by
    have : h = 1 ∨ h = 2 ∨ h = 3 ∨ h = 4 ∨ h = 5 ∨ h = 6 ∨ h = 7 ∨ h = 8 ∨ h = 9 := by omega
    rcases this with rfl | rfl | rfl | rfl | rfl | rfl | rfl | rfl | rfl <;> decide
  have x1 := x.2.1
  generalize zONE / h = u at *
  have h1 : n * h * zONE = W * (e * h) := by rw [Int.mul_right_comm, x1, Int.mul_assoc]
  have h2 : g * e * zONE = u * g * (e * h) := by
    rw [e1]; simp only [Int.mul_assoc, Int.mul_left_comm, Int.mul_comm]
  rw [Int.sub_mul, Int.sub_mul, h1, h2]
theorem yF_mx {W V U n e m f k t : Int} (x : yF W n e) (y : yF V m f) (h : U * k = W * (k - t) + V * t) : (n * f * (k - t) + m * e * t) * zONE = U * (e * f * k) := by
  have x1 := x.2.1
  have y1 := y.2.1
  have h0 : U * (e * f * k) = (U * k) * (e * f) := by simp only [Int.mul_assoc, Int.mul_left_comm, Int.mul_comm]
  have h1 : n * f * (k - t) * zONE = W * (k - t) * (e * f) := by
    have : n * f * (k - t) * zONE = (n * zONE) * (f * (k - t)) := by simp only [Int.mul_assoc, Int.mul_left_comm, Int.mul_comm]
    rw [this, x1]; simp only [Int.mul_assoc, Int.mul_left_comm, Int.mul_comm]
  have h2 : m * e * t * zONE = V * t * (e * f) := by
    have : m * e * t * zONE = (m * zONE) * (e * t) := by simp only [Int.mul_assoc, Int.mul_left_comm, Int.mul_comm]
    rw [this, y1]; simp only [Int.mul_assoc, Int.mul_left_comm, Int.mul_comm]
  rw [Int.add_mul, h0, h, h1, h2, Int.add_mul]
/-- how large numbers of a fraction are, with few blends and with all -/
def yC (n e : Int) : Prop := (0 < e ∧ e ≤ 1837080) ∧ -1292132262960 ≤ n ∧ n ≤ 1292132262960
def yc (n e : Int) : Prop := (0 < e ∧ e ≤ 22680) ∧ -15952250160 ≤ n ∧ n ≤ 15952250160
theorem yC_q {b D W n e : Int} (x : yF W n e) (q : yQ b D W) (hD : 0 ≤ D ∧ D ≤ 6) : yC n e := by
  have h := yF_b x q hD
  have m := yM_b b
  have h0 := x.1
  exact ⟨by omega, by omega⟩
theorem yc_q {b D W n e : Int} (x : yF W n e) (q : yQ b D W) (hD : 0 ≤ D ∧ D ≤ 6) (hb : b ≤ 1) : yc n e := by
  have h := yF_b x q hD
  have m : yM b ≤ 9 := by
    unfold yM
    split
    · omega
    · rw [if_pos (by omega)]; omega
  have h0 := x.1
  exact ⟨by omega, by omega⟩
theorem ymul_b {a b x y : Int} (h : -x ≤ a ∧ a ≤ x) (g : 0 ≤ b ∧ b ≤ y) : -(x * y) ≤ a * b ∧ a * b ≤ x * y := by
  have u := ymul_le (g := a) g.1 h
  have hx : 0 ≤ x := by omega
  have v := Int.mul_le_mul_of_nonneg_left g.2 hx
  rw [Int.mul_comm b x, Int.mul_comm b a] at u
  omega
theorem yC_m {n e n' e' : Int} (a : yC n e) (b : yC n' e') : -9223372036854775808 < n * e' ∧ n * e' < 9223372036854775808 := by
  obtain ⟨⟨a1, a2⟩, a3, a4⟩ := a
  obtain ⟨⟨b1, b2⟩, b3, b4⟩ := b
  have := ymul_b ⟨a3, a4⟩ (show 0 ≤ e' ∧ e' ≤ 1837080 by omega)
  omega
end
