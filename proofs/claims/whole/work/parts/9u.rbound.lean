section
/-! A shape's bounds over a region, as the reference finds them -/
theorem s_228 (w : zW) {d : Nat} (hd : 1 ≤ d) {a b : Int} (ha : -1000 ≤ a ∧ a ≤ 1000) (hb : -1000 ≤ b ∧ b ≤ 1000) (σ : zMem) : zcall w d 228 [zJ a, zJ b] σ = some (zls a b, σ) := by
  obtain ⟨d, rfl⟩ : ∃ e, d = e + 1 := ⟨d - 1, by omega⟩
  have p := ysq2 ha
  have q := ysq2 hb
  rw [eX12_leastSquare, zcmp_gt, zcmp_lt, za_14, za_14, zw64_i (by omega), zw64_i (by omega), s_344, zls]
  simp only [Option.bind_some]
  by_cases c : 0 < a
  · rw [if_pos c, if_neg (by omega)]
  · rw [if_neg c]
    by_cases e : b < 0
    · rw [if_pos e, if_neg (by omega)]
    · rw [if_neg e, if_pos (by omega)]
theorem s_229 (w : zW) {d : Nat} (hd : 1 ≤ d) {a b : Int} (ha : -1000 ≤ a ∧ a ≤ 1000) (hb : -1000 ≤ b ∧ b ≤ 1000) (σ : zMem) : zcall w d 229 [zJ a, zJ b] σ = some (max (a * a) (b * b), σ) := by
  obtain ⟨d, rfl⟩ : ∃ e, d = e + 1 := ⟨d - 1, by omega⟩
  have p := ysq2 ha
  have q := ysq2 hb
  rw [eX12_greatestSquare, za_14, za_14, zw64_i (by omega), zw64_i (by omega), s_342]
  rfl
theorem s_231 (w : zW) {d : Nat} (hd : 1 ≤ d) {s k v0 v1 : Int} (h : 0 ≤ s ∧ s < 24) (g : 0 ≤ k ∧ k < 3) {σ : zMem} (hv : -429 ≤ v0 ∧ v0 ≤ 429) (hv1 : -429 ≤ v1 ∧ v1 ≤ 429) (h1 : -429 ≤ σ 210 (11 * s + 5 + k) ∧ σ 210 (11 * s + 5 + k) ≤ 429) (h2 : -429 ≤ σ 210 (11 * s + 5 + (3 + k)) ∧ σ 210 (11 * s + 5 + (3 + k)) ≤ 429) :
    zcall w d 231 [zA 13 32 209, zI s, zI k, zI v0, zI v1] σ = some (max (σ 210 (11 * s + 5 + k) - v1) (v0 - σ 210 (11 * s + 5 + (3 + k))), σ) := by
  obtain ⟨d, rfl⟩ : ∃ e, d = e + 1 := ⟨d - 1, by omega⟩
  rw [eX12_lowBeyond, s_217 w d h (by omega), Option.bind_some]
  dsimp only
  rw [za_0, zw32_i (by omega), s_217 w d h (by omega), Option.bind_some]
  dsimp only
  rw [za_1, zw32_i (by omega), za_1, zw32_i (by omega), s_341]
  rfl
theorem s_232 (w : zW) {d : Nat} (hd : 1 ≤ d) {s k v0 v1 : Int} (h : 0 ≤ s ∧ s < 24) (g : 0 ≤ k ∧ k < 3) {σ : zMem} (hv : -429 ≤ v0 ∧ v0 ≤ 429) (hv1 : -429 ≤ v1 ∧ v1 ≤ 429) (h1 : -429 ≤ σ 210 (11 * s + 5 + k) ∧ σ 210 (11 * s + 5 + k) ≤ 429) (h2 : -429 ≤ σ 210 (11 * s + 5 + (3 + k)) ∧ σ 210 (11 * s + 5 + (3 + k)) ≤ 429) :
    zcall w d 232 [zA 13 32 209, zI s, zI k, zI v0, zI v1] σ = some (max (σ 210 (11 * s + 5 + k) - v0) (v1 - σ 210 (11 * s + 5 + (3 + k))), σ) := by
  obtain ⟨d, rfl⟩ : ∃ e, d = e + 1 := ⟨d - 1, by omega⟩
  rw [eX12_highBeyond, s_217 w d h (by omega), Option.bind_some]
  dsimp only
  rw [za_0, zw32_i (by omega), s_217 w d h (by omega), Option.bind_some]
  dsimp only
  rw [za_1, zw32_i (by omega), za_1, zw32_i (by omega), s_341]
  rfl
theorem s_233 (w : zW) {d : Nat} (hd : 1 ≤ d) {n a b : Int} (h : -3861 ≤ n * a ∧ n * a ≤ 3861) (g : -3861 ≤ n * b ∧ n * b ≤ 3861) (σ : zMem) : zcall w d 233 [zJ n, zJ a, zJ b] σ = some (min (n * a) (n * b), σ) := by
  obtain ⟨d, rfl⟩ : ∃ e, d = e + 1 := ⟨d - 1, by omega⟩
  rw [eX12_lesser, za_14, za_14, zw64_i (by omega), zw64_i (by omega), s_344]
  rfl
/-- both ends are W, and all else is as it was -/
def yE2 (σ σ' : zMem) (W : Int × Int) : Prop := σ' 212 0 = W.1 ∧ σ' 213 0 = W.2 ∧ ∀ c k, c ≠ 212 → c ≠ 213 → σ' c k = σ c k
theorem yE2_i {σ σ' : zMem} {u v : Int} (e : σ' = zup (zup σ 212 0 u) 213 0 v) : yE2 σ σ' (u, v) :=
  ⟨by rw [e, zup_f (by omega), zup_t ⟨rfl, rfl, by decide⟩], by rw [e, zup_t ⟨rfl, rfl, by decide⟩], fun c k h g => by rw [e, zup_f (by omega), zup_f (by omega)]⟩
theorem s_230s (w : zW) {d : Nat} (hd : 2 ≤ d) {s k : Int} {R : zrg} {σ : zMem} {N : Int → Int} (h : 0 ≤ s ∧ s < 24) (eK : σ 210 (11 * s) = k) (hk : 3 ≤ k ∧ k ≤ 5) (eN : ∀ j, σ 210 (11 * s + 5 + j) = N j) (hN : zNV k N) (hb : yrb 429 R) :
    ∃ σ', zcall w d 230 [zA 13 32 209, zI s, zI 0, zI R.1.1, zI R.1.2, zI R.2.1.1, zI R.2.1.2, zI R.2.2.1, zI R.2.2.2] σ = some (0, σ') ∧ yE2 σ σ' ((zsb k N R).1 * zONE, (zsb k N R).2 * zONE) := by
  obtain ⟨d, rfl⟩ : ∃ e, d = e + 1 := ⟨d - 1, by omega⟩
  obtain ⟨b1, b2⟩ := ysb_b hk hN hb
  have u1 : zONE = 16003008000 := rfl
  obtain ⟨⟨x0, x1⟩, ⟨y0, y1⟩, z0, z1⟩ := hb
  have rd : ∀ (σ1 : zMem), (∀ j, σ1 210 j = σ 210 j) → ∀ j, 0 ≤ j → j < 6 → zcall w d 217 [zA 13 32 209, zI s, zI j] σ1 = some (N j, σ1) := fun σ1 h1 j j0 j1 => by rw [s_217 w d h ⟨j0, j1⟩, h1, eN]
  have r0 := rd σ (fun _ => rfl)
  have z9 : (0 : Int) ≤ 0 ∧ (0 : Int) < 9 := by decide
  rw [eX12_bound, s_216 w d h (by decide), Option.bind_some]
  dsimp only
  rw [Int.add_zero, eK]
  have : k = 3 ∨ k = 4 ∨ k = 5 := by omega
  rcases this with rfl | rfl | rfl
  · have v := yV3 hN
    have d : ∀ u n : Int, -429 ≤ u → u ≤ 429 → -40 ≤ n → n ≤ 55 → zar 13 u n = u - n := fun u n a b c e => by rw [za_13, zw64_i (by omega)]
    have l0 := yls_b (a := R.1.1 - N 0) (b := R.1.2 - N 0) (n := 484) (by omega) (by omega)
    have l1 := yls_b (a := R.2.1.1 - N 1) (b := R.2.1.2 - N 1) (n := 484) (by omega) (by omega)
    have l2 := yls_b (a := R.2.2.1 - N 2) (b := R.2.2.2 - N 2) (n := 484) (by omega) (by omega)
    have m0 := ysq2 (a := R.1.1 - N 0) (n := 484) (by omega)
    have m0' := ysq2 (a := R.1.2 - N 0) (n := 484) (by omega)
    have m1 := ysq2 (a := R.2.1.1 - N 1) (n := 484) (by omega)
    have m1' := ysq2 (a := R.2.1.2 - N 1) (n := 484) (by omega)
    have m2 := ysq2 (a := R.2.2.1 - N 2) (n := 484) (by omega)
    have m2' := ysq2 (a := R.2.2.2 - N 2) (n := 484) (by omega)
    have q3 := ysq2 (a := N 3) (n := 40) (by omega)
    rw [if_pos rfl, hX12_bound_5, r0 0 (by decide) (by decide), Option.bind_some]
    dsimp only
    rw [r0 1 (by decide) (by decide), Option.bind_some]
    dsimp only
    rw [r0 2 (by decide) (by decide), Option.bind_some]
    dsimp only
    rw [r0 3 (by decide) (by decide), Option.bind_some]
    dsimp only
    rw [r0 3 (by decide) (by decide), Option.bind_some]
    dsimp only
    rw [d _ _ x0.1 x0.2 (by omega) (by omega), d _ _ x1.1 x1.2 (by omega) (by omega), d _ _ y0.1 y0.2 (by omega) (by omega), d _ _ y1.1 y1.2 (by omega) (by omega), d _ _ z0.1 z0.2 (by omega) (by omega), d _ _ z1.1 z1.2 (by omega) (by omega),
      s_228 w (by omega) (by omega) (by omega), Option.bind_some]
    dsimp only
    rw [s_228 w (by omega) (by omega) (by omega), Option.bind_some]
    dsimp only
    rw [s_228 w (by omega) (by omega) (by omega), Option.bind_some]
    dsimp only
    rw [if_pos z9, s_229 w (by omega) (by omega) (by omega), Option.bind_some]
    dsimp only
    rw [s_229 w (by omega) (by omega) (by omega), Option.bind_some]
    dsimp only
    rw [s_229 w (by omega) (by omega) (by omega), Option.bind_some]
    dsimp only
    rw [if_pos z9]
    refine ⟨_, rfl, yE2_i ?_⟩
    have val : ∀ p q r o : Int, (0 ≤ p ∧ p ≤ 484 * 484) → (0 ≤ q ∧ q ≤ 484 * 484) → (0 ≤ r ∧ r ≤ 484 * 484) → (0 ≤ o ∧ o ≤ 40 * 40) → zar 14 16003008000 (zar 13 (zar 12 (zar 12 p q) r) o) = (p + q + r - o) * zONE := by
      intro p q r o a b c d
      rw [za_12 p q, zw64_i (by omega), za_12, zw64_i (by omega), za_13, zw64_i (by omega), za_14, zw64_i (by omega), u1, Int.mul_comm]
    have eo : zar 14 (N 3) (N 3) = N 3 * N 3 := by rw [za_14, zw64_i (by omega)]
    rw [eo, val _ _ _ _ l0 l1 l2 q3, val _ _ _ _ (by omega) (by omega) (by omega) q3, zsb, if_pos rfl]
  · have v := yV4 hN
    have nb : ∀ σ1 : zMem, (∀ j, σ1 210 j = σ 210 j) → ∀ j, 0 ≤ j → j < 6 → -429 ≤ σ1 210 (11 * s + 5 + j) ∧ σ1 210 (11 * s + 5 + j) ≤ 429 := by
      intro σ1 h1 j j0 j1
      rw [h1, eN]
      have : j = 0 ∨ j = 1 ∨ j = 2 ∨ j = 3 ∨ j = 4 ∨ j = 5 := by omega
      rcases this with rfl | rfl | rfl | rfl | rfl | rfl <;> omega
    have n0 := nb σ (fun _ => rfl)
    rw [if_neg (by decide), if_pos rfl, hX12_bound_110, s_231 w (by omega) h (by decide) x0 x1 (n0 0 (by decide) (by decide)) (n0 (3 + 0) (by decide) (by decide)), Option.bind_some]
    dsimp only
    rw [s_231 w (by omega) h (by decide) y0 y1 (n0 1 (by decide) (by decide)) (n0 (3 + 1) (by decide) (by decide)), Option.bind_some]
    dsimp only
    rw [s_342, Option.bind_some]
    dsimp only
    rw [s_231 w (by omega) h (by decide) z0 z1 (n0 2 (by decide) (by decide)) (n0 (3 + 2) (by decide) (by decide)), Option.bind_some]
    dsimp only
    rw [s_342, Option.bind_some]
    dsimp only
    rw [if_pos z9]
    generalize hA : zar 14 16003008000 _ = A
    have k1 : ∀ j, zup σ 212 0 A 210 j = σ 210 j := fun j => zup_f (by omega)
    have n1 := nb _ k1
    rw [s_232 w (by omega) h (by decide) x0 x1 (n1 0 (by decide) (by decide)) (n1 (3 + 0) (by decide) (by decide)), Option.bind_some]
    dsimp only
    rw [s_232 w (by omega) h (by decide) y0 y1 (n1 1 (by decide) (by decide)) (n1 (3 + 1) (by decide) (by decide)), Option.bind_some]
    dsimp only
    rw [s_342, Option.bind_some]
    dsimp only
    rw [s_232 w (by omega) h (by decide) z0 z1 (n1 2 (by decide) (by decide)) (n1 (3 + 2) (by decide) (by decide)), Option.bind_some]
    dsimp only
    rw [s_342, Option.bind_some]
    dsimp only
    rw [if_pos z9, ← hA]
    refine ⟨_, rfl, yE2_i ?_⟩
    have val : ∀ p : Int, -702768 ≤ p → p ≤ 702768 → zar 14 16003008000 p = p * zONE := by
      intro p a b
      rw [za_14, zw64_i (by omega), u1, Int.mul_comm]
    rw [hA]
    simp only [k1]
    rw [← hA]
    simp only [eN, show (3 : Int) + 0 = 3 from rfl, show (3 : Int) + 1 = 4 from rfl, show (3 : Int) + 2 = 5 from rfl]
    rw [zsb, if_neg (by decide), if_pos rfl] at b1 b2 ⊢
    dsimp only at b1 b2 ⊢
    rw [val _ b1.1 b1.2, val _ b2.1 b2.2]
  · have v := yV5 hN
    have p0 := ypr9 v.1 x0
    have p1 := ypr9 v.1 x1
    have p2 := ypr9 v.2.1 y0
    have p3 := ypr9 v.2.1 y1
    have p4 := ypr9 v.2.2.1 z0
    have p5 := ypr9 v.2.2.1 z1
    have ng : ∀ n : Int, -9 ≤ n → n ≤ 9 → zar 5 n 0 = -n := fun n a b => by rw [za_5, zw32_i (by omega)]
    rw [if_neg (by decide), if_neg (by decide), if_pos rfl, hX12_bound_163, r0 0 (by decide) (by decide), Option.bind_some]
    dsimp only
    rw [s_233 w (by omega) p0 p1, Option.bind_some]
    dsimp only
    rw [r0 1 (by decide) (by decide), Option.bind_some]
    dsimp only
    rw [s_233 w (by omega) p2 p3, Option.bind_some]
    dsimp only
    rw [r0 2 (by decide) (by decide), Option.bind_some]
    dsimp only
    rw [s_233 w (by omega) p4 p5, Option.bind_some]
    dsimp only
    rw [r0 3 (by decide) (by decide), Option.bind_some]
    dsimp only
    rw [if_pos z9]
    generalize hA : zar 14 16003008000 _ = A
    have r1 := rd (zup σ 212 0 A) (fun j => zup_f (by omega))
    rw [r1 0 (by decide) (by decide), Option.bind_some]
    dsimp only
    rw [ng _ v.1.1 v.1.2, s_233 w (by omega) (by rw [Int.neg_mul]; omega) (by rw [Int.neg_mul]; omega), Option.bind_some]
    dsimp only
    rw [r1 1 (by decide) (by decide), Option.bind_some]
    dsimp only
    rw [ng _ v.2.1.1 v.2.1.2, s_233 w (by omega) (by rw [Int.neg_mul]; omega) (by rw [Int.neg_mul]; omega), Option.bind_some]
    dsimp only
    rw [r1 2 (by decide) (by decide), Option.bind_some]
    dsimp only
    rw [ng _ v.2.2.1.1 v.2.2.1.2, s_233 w (by omega) (by rw [Int.neg_mul]; omega) (by rw [Int.neg_mul]; omega), Option.bind_some]
    dsimp only
    rw [r1 3 (by decide) (by decide), Option.bind_some]
    dsimp only
    rw [if_pos z9, ← hA]
    refine ⟨_, rfl, yE2_i ?_⟩
    have val : ∀ p q r o : Int, (-3861 ≤ p ∧ p ≤ 3861) → (-3861 ≤ q ∧ q ≤ 3861) → (-3861 ≤ r ∧ r ≤ 3861) → (-999 ≤ o ∧ o ≤ 999) → zar 14 16003008000 (zar 13 (zar 12 (zar 12 p q) r) o) = (p + q + r - o) * zONE := by
      intro p q r o a b c d
      rw [za_12 p q, zw64_i (by omega), za_12, zw64_i (by omega), za_13, zw64_i (by omega), za_14, zw64_i (by omega), u1, Int.mul_comm]
    have val2 : ∀ p q r o : Int, (-3861 ≤ p ∧ p ≤ 3861) → (-3861 ≤ q ∧ q ≤ 3861) → (-3861 ≤ r ∧ r ≤ 3861) → (-999 ≤ o ∧ o ≤ 999) → zar 14 16003008000 (zar 13 (zar 13 (zar 13 (zar 16 p 0) q) r) o) = (-p - q - r - o) * zONE := by
      intro p q r o a b c d
      rw [za_16, zw64_i (by omega), za_13 (-p) q, zw64_i (by omega), za_13 (-p - q) r, zw64_i (by omega), za_13, zw64_i (by omega), za_14, zw64_i (by omega), u1, Int.mul_comm]
    simp only [Int.neg_mul]
    rw [val _ _ _ _ (by omega) (by omega) (by omega) v.2.2.2, val2 _ _ _ _ (by omega) (by omega) (by omega) v.2.2.2, zsb, if_neg (by decide), if_neg (by decide)]
    dsimp only
    have mm : ∀ p q : Int, -min (-p) (-q) = max p q := fun p q => by omega
    have e2 : -min (-(N 0 * R.1.1)) (-(N 0 * R.1.2)) - min (-(N 1 * R.2.1.1)) (-(N 1 * R.2.1.2)) - min (-(N 2 * R.2.2.1)) (-(N 2 * R.2.2.2)) - N 3 = max (N 0 * R.1.1) (N 0 * R.1.2) + max (N 1 * R.2.1.1) (N 1 * R.2.1.2) + max (N 2 * R.2.2.1) (N 2 * R.2.2.2) - N 3 := by omega
    rw [e2]
theorem s_235 (w : zW) {d : Nat} (hd : 1 ≤ d) {a b m : Int} (ha : -500 ≤ a ∧ a ≤ 500) (hb : -500 ≤ b ∧ b ≤ 500) (hm : 1 ≤ m ∧ m ≤ 16) (σ : zMem) : zcall w d 235 [zI a, zI b, zI m] σ = some (zt (a % m ≤ b % m ∧ b - a < m), σ) := by
  obtain ⟨d, rfl⟩ : ∃ e, d = e + 1 := ⟨d - 1, by omega⟩
  rw [eX12_isWithin, s_339 w d ⟨by omega, by omega⟩ (by omega), Option.bind_some]
  dsimp only
  rw [s_339 w d ⟨by omega, by omega⟩ (by omega), Option.bind_some]
  dsimp only
  rw [za_1, zw32_i (by omega), zt]
  (repeat' split) <;> first | rfl | omega
theorem s_236 (w : zW) {d : Nat} (hd : 2 ≤ d) {a b m : Int} (ha : -500 ≤ a ∧ a ≤ 500) (hb : -500 ≤ b ∧ b ≤ 500) (hm : 1 ≤ m ∧ m ≤ 16) (σ : zMem) : zcall w d 236 [zI a, zI b, zI m] σ = some ((zrpt m (a, b)).1, σ) := by
  obtain ⟨d, rfl⟩ : ∃ e, d = e + 1 := ⟨d - 1, by omega⟩
  rw [eX12_repeatFrom, s_235 w (by omega) ha hb hm, Option.bind_some, zrpt]
  dsimp only
  rw [zt_if, s_339 w d ⟨by omega, by omega⟩ (by omega)]
  (repeat' split) <;> rfl
theorem s_237 (w : zW) {d : Nat} (hd : 2 ≤ d) {a b m : Int} (ha : -500 ≤ a ∧ a ≤ 500) (hb : -500 ≤ b ∧ b ≤ 500) (hm : 1 ≤ m ∧ m ≤ 16) (σ : zMem) : zcall w d 237 [zI a, zI b, zI m] σ = some ((zrpt m (a, b)).2, σ) := by
  obtain ⟨d, rfl⟩ : ∃ e, d = e + 1 := ⟨d - 1, by omega⟩
  rw [eX12_repeatTo, s_235 w (by omega) ha hb hm, Option.bind_some, zrpt]
  dsimp only
  rw [zt_if, s_339 w d ⟨by omega, by omega⟩ (by omega), za_1, zw32_i (by omega)]
  (repeat' split) <;> rfl
theorem s_238 (w : zW) {d : Nat} (hd : 1 ≤ d) {a b m : Int} (ha : -500 ≤ a ∧ a ≤ 500) (hb : -500 ≤ b ∧ b ≤ 500) (hm : 0 ≤ m ∧ m ≤ 15) (σ : zMem) : zcall w d 238 [zI a, zI b, zI m] σ = some ((zmir m (a, b)).1, σ) := by
  obtain ⟨d, rfl⟩ : ∃ e, d = e + 1 := ⟨d - 1, by omega⟩
  rw [eX12_mirrorFrom, za_2, zw32_i (by omega), za_1, zw32_i (by omega), s_343, zmir]
  dsimp only
  (repeat' split) <;> first | rfl | omega
theorem s_239 (w : zW) (d : Nat) {a b m : Int} (ha : -500 ≤ a ∧ a ≤ 500) (hb : -500 ≤ b ∧ b ≤ 500) (hm : 0 ≤ m ∧ m ≤ 15) (σ : zMem) : zcall w d 239 [zI a, zI b, zI m] σ = some ((zmir m (a, b)).2, σ) := by
  rw [eX12_mirrorTo, za_2, zw32_i (by omega), za_1, zw32_i (by omega), zmir]
  dsimp only
  (repeat' split) <;> first | rfl | omega
end
