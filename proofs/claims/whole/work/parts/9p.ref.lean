section
/-! A shape's worth at a point, as the reference finds it -/
theorem s_216 (w : zW) (d : Nat) {s k : Int} (h : 0 ≤ s ∧ s < 24) (g : 0 ≤ k ∧ k < 11) (σ : zMem) : zcall w d 216 [zA 13 32 209, zI s, zI k] σ = some (σ 210 (11 * s + k), σ) := by
  rw [eX12_of, za_2, zw32_i (by omega), za_0, zw32_i (by omega), if_pos (by omega)]
theorem s_217 (w : zW) (d : Nat) {s k : Int} (h : 0 ≤ s ∧ s < 24) (g : 0 ≤ k ∧ k < 6) (σ : zMem) : zcall w d 217 [zA 13 32 209, zI s, zI k] σ = some (σ 210 (11 * s + 5 + k), σ) := by
  have e : zar 0 (zar 0 (zar 2 11 s) 5) k = 11 * s + 5 + k := by rw [za_2, zw32_i (by omega), za_0 (11 * s) 5, zw32_i (by omega), za_0, zw32_i (by omega)]
  rw [eX12_number, e, if_pos (by omega)]
theorem s_220 (w : zW) {d : Nat} (hd : 1 ≤ d) {s k v : Int} (h : 0 ≤ s ∧ s < 24) (g : 0 ≤ k ∧ k < 3) {σ : zMem} (hv : -429 ≤ v ∧ v ≤ 429) (h1 : -429 ≤ σ 210 (11 * s + 5 + k) ∧ σ 210 (11 * s + 5 + k) ≤ 429) (h2 : -429 ≤ σ 210 (11 * s + 5 + (3 + k)) ∧ σ 210 (11 * s + 5 + (3 + k)) ≤ 429) :
    zcall w d 220 [zA 13 32 209, zI s, zI k, zI v] σ = some (max (σ 210 (11 * s + 5 + k) - v) (v - σ 210 (11 * s + 5 + (3 + k))), σ) := by
  obtain ⟨d, rfl⟩ : ∃ e, d = e + 1 := ⟨d - 1, by omega⟩
  rw [eX12_beyond, s_217 w d h (by omega), Option.bind_some]
  dsimp only
  rw [za_0, zw32_i (by omega), s_217 w d h (by omega), Option.bind_some]
  dsimp only
  rw [za_1, zw32_i (by omega), za_1, zw32_i (by omega), s_341]
  rfl
theorem s_222 (w : zW) {d : Nat} (hd : 1 ≤ d) {s g k : Int} (h : 0 ≤ s ∧ s < 24) {σ : zMem} (e0 : σ 210 (11 * s + 5) = g) (e1 : σ 210 (11 * s + 6) = k) (hg : -99 ≤ g ∧ g ≤ 99) (hk : 1 ≤ k ∧ k ≤ 9) :
    zcall w d 222 [zA 13 32 209, zI s] σ = some (zONE / k * g, σ) := by
  obtain ⟨d, rfl⟩ : ∃ e, d = e + 1 := ⟨d - 1, by omega⟩
  have q := yONE_h hk hg
  have t : (16003008000 : Int).tdiv k = zONE / k := by
    have : k = 1 ∨ k = 2 ∨ k = 3 ∨ k = 4 ∨ k = 5 ∨ k = 6 ∨ k = 7 ∨ k = 8 ∨ k = 9 := by omega
    rcases this with rfl | rfl | rfl | rfl | rfl | rfl | rfl | rfl | rfl <;> rfl
  have b : 0 ≤ zONE / k ∧ zONE / k ≤ zONE := by
    have : k = 1 ∨ k = 2 ∨ k = 3 ∨ k = 4 ∨ k = 5 ∨ k = 6 ∨ k = 7 ∨ k = 8 ∨ k = 9 := by omega
    rcases this with rfl | rfl | rfl | rfl | rfl | rfl | rfl | rfl | rfl <;> decide
  have u1 : zONE = 16003008000 := rfl
  rw [eX12_grownBy, s_217 w d h (by decide), Option.bind_some]
  dsimp only
  rw [ya1, e1, if_neg (by omega), s_217 w d h (by decide), Option.bind_some]
  dsimp only
  rw [Int.add_zero, e0, za_15, t, zw64_i (by omega), za_14, zw64_i (by omega)]
theorem s_221 (w : zW) {d : Nat} (hd : 1 ≤ d) {s n t A B b D : Int} (h : 0 ≤ s ∧ s < 24) {σ : zMem} (e0 : σ 210 (11 * s + 5) = n) (e1 : σ 210 (11 * s + 6) = t) (hn : 1 ≤ n ∧ n ≤ 9) (ht : 0 ≤ t ∧ t ≤ n) (hD : 0 ≤ D ∧ D ≤ 6) (hb : 0 ≤ b ∧ b ≤ 1) (qA : yQ b D A) (qB : yQ b D B) :
    zcall w d 221 [zA 13 32 209, zI s, zJ A, zJ B] σ = some ((A * (n - t) + B * t) / n, σ) := by
  obtain ⟨d, rfl⟩ : ∃ e, d = e + 1 := ⟨d - 1, by omega⟩
  obtain ⟨K, -, ex, -⟩ := yQ_ex (t := t) qA qB hb hn
  have qW := yQ_bl qA qB hb hn ht
  obtain ⟨-, -, a1, a2⟩ := qA
  obtain ⟨-, -, b1, b2⟩ := qB
  obtain ⟨-, -, w1, w2⟩ := qW
  have m : (702768 + 99 * D) * zONE ≤ 703362 * 16003008000 := Int.mul_le_mul_of_nonneg_right (c := zONE) (show 702768 + 99 * D ≤ 703362 by omega) (by decide)
  have x1 := ymul_b (x := 703362 * 16003008000) (a := A) (by omega) (show 0 ≤ n - t ∧ n - t ≤ 9 by omega)
  have x2 := ymul_b (x := 703362 * 16003008000) (a := B) (by omega) (show 0 ≤ t ∧ t ≤ 9 by omega)
  rw [eX12_blended, s_217 w d h (by decide), Option.bind_some]
  dsimp only
  rw [s_217 w d h (by decide), Option.bind_some]
  dsimp only
  rw [ya1, Int.add_zero, e0, e1, if_neg (by omega), za_1, zw32_i (by omega), za_14, za_14, zw64_i (z := A * (n - t)) (by omega), zw64_i (z := B * t) (by omega), za_12, zw64_i (z := A * (n - t) + B * t) (by omega), za_15]
  generalize hW : (A * (n - t) + B * t) / n = W at *
  have : (A * (n - t) + B * t).tdiv n = W := by
    rw [← ex]; exact Int.mul_tdiv_cancel _ (by omega)
  rw [this, zw64_i (by omega)]
def yWd (w : zW) (n : Int) (f : Nat) : Prop := ∀ (d : Nat) (s x y z : Int) (σ : zMem), zWF (σ 210) n → 2 * f + 3 ≤ d → 0 ≤ s → s < n → σ 210 (11 * s + 3) < f →
  (-(429 - 55 * σ 210 (11 * s + 3)) ≤ x ∧ x ≤ 429 - 55 * σ 210 (11 * s + 3)) → (-(429 - 55 * σ 210 (11 * s + 3)) ≤ y ∧ y ≤ 429 - 55 * σ 210 (11 * s + 3)) → (-(429 - 55 * σ 210 (11 * s + 3)) ≤ z ∧ z ≤ 429 - 55 * σ 210 (11 * s + 3)) →
  zcall w d 219 [zA 13 32 209, zI s, zI x, zI y, zI z] σ = some (zwd (σ 210) f s x y z, σ)
/-- .. of a solid -/
theorem s_219s (w : zW) {d : Nat} (hd : 2 ≤ d) {s x y z k : Int} {σ : zMem} {N : Int → Int} (h : 0 ≤ s ∧ s < 24) (eK : σ 210 (11 * s) = k) (hk : 3 ≤ k ∧ k ≤ 5) (eN : ∀ j, σ 210 (11 * s + 5 + j) = N j) (hN : zNV k N) (hx : -429 ≤ x ∧ x ≤ 429) (hy : -429 ≤ y ∧ y ≤ 429) (hz : -429 ≤ z ∧ z ≤ 429) :
    zcall w d 219 [zA 13 32 209, zI s, zI x, zI y, zI z] σ = some (zsd k N x y z * zONE, σ) := by
  obtain ⟨d, rfl⟩ : ∃ e, d = e + 1 := ⟨d - 1, by omega⟩
  have b := ysd_b hk hN hx hy hz
  have u1 : zONE = 16003008000 := rfl
  rw [eX12_worthAt, s_216 w d h (by decide), Option.bind_some]
  dsimp only
  rw [Int.add_zero, eK]
  have : k = 3 ∨ k = 4 ∨ k = 5 := by omega
  rcases this with rfl | rfl | rfl
  · have v := yV3 hN
    have q0 := ysq2 (a := x - N 0) (n := 484) (by omega)
    have q1 := ysq2 (a := y - N 1) (n := 484) (by omega)
    have q2 := ysq2 (a := z - N 2) (n := 484) (by omega)
    have q3 := ysq2 (a := N 3) (n := 40) (by omega)
    have eZ : zsd 3 N x y z = (x - N 0) * (x - N 0) + (y - N 1) * (y - N 1) + (z - N 2) * (z - N 2) - N 3 * N 3 := by rw [zsd, if_pos rfl]
    rw [eZ] at b ⊢
    rw [if_pos rfl, hX12_worthAt_5]
    simp only [s_217 w d h (show (0 : Int) ≤ 0 ∧ (0 : Int) < 6 by decide), s_217 w d h (show (0 : Int) ≤ 1 ∧ (1 : Int) < 6 by decide), s_217 w d h (show (0 : Int) ≤ 2 ∧ (2 : Int) < 6 by decide), s_217 w d h (show (0 : Int) ≤ 3 ∧ (3 : Int) < 6 by decide), Option.bind_some, eN]
    rw [u1]
    simp (disch := omega) only [if_pos, if_neg, zw32_i, zw64_i, Option.bind_some, zup_t, zup_f, za_0, za_1, za_2, za_3, za_4, za_5, za_6, za_7, za_8, za_9, za_10, za_11, za_12, za_13, za_14, za_15, za_16, za_17, za_18, za_19, za_20, za_21, za_22, za_23, za_24, za_25, za_26]
  · have v := yV4 hN
    have e0 := s_220 w (d := d) (by omega) (k := 0) (v := x) (σ := σ) h (by decide) hx (by rw [eN]; omega) (by rw [eN]; show -429 ≤ N 3 ∧ N 3 ≤ 429; omega)
    have e1 := s_220 w (d := d) (by omega) (k := 1) (v := y) (σ := σ) h (by decide) hy (by rw [eN]; omega) (by rw [eN]; show -429 ≤ N 4 ∧ N 4 ≤ 429; omega)
    have e2 := s_220 w (d := d) (by omega) (k := 2) (v := z) (σ := σ) h (by decide) hz (by rw [eN]; omega) (by rw [eN]; show -429 ≤ N 5 ∧ N 5 ≤ 429; omega)
    rw [eN, eN] at e0 e1 e2
    have eZ : zsd 4 N x y z = max (max (max (N 0 - x) (x - N 3)) (max (N 1 - y) (y - N 4))) (max (N 2 - z) (z - N 5)) := by rw [zsd, if_neg (by decide), if_pos rfl]
    rw [eZ] at b ⊢
    rw [if_neg (by decide), if_pos rfl, hX12_worthAt_53]
    simp only [e0, e1, e2, Option.bind_some, s_342]
    rw [u1, show (3 : Int) + 0 = 3 from rfl, show (3 : Int) + 1 = 4 from rfl, show (3 : Int) + 2 = 5 from rfl, Int.mul_comm _ (16003008000 : Int), za_14, zw64_i (by omega)]
  · have v := yV5 hN
    have q0 := ypr9 v.1 hx
    have q1 := ypr9 v.2.1 hy
    have q2 := ypr9 v.2.2.1 hz
    have eZ : zsd 5 N x y z = N 0 * x + N 1 * y + N 2 * z - N 3 := by rw [zsd, if_neg (by decide), if_neg (by decide)]
    rw [eZ] at b ⊢
    rw [if_neg (by decide), if_neg (by decide), if_pos rfl, hX12_worthAt_73]
    simp only [s_217 w d h (show (0 : Int) ≤ 0 ∧ (0 : Int) < 6 by decide), s_217 w d h (show (0 : Int) ≤ 1 ∧ (1 : Int) < 6 by decide), s_217 w d h (show (0 : Int) ≤ 2 ∧ (2 : Int) < 6 by decide), s_217 w d h (show (0 : Int) ≤ 3 ∧ (3 : Int) < 6 by decide), Option.bind_some, eN]
    rw [u1, Int.mul_comm _ (16003008000 : Int)]
    simp (disch := omega) only [if_pos, if_neg, zw32_i, zw64_i, Option.bind_some, zup_t, zup_f, za_0, za_1, za_2, za_3, za_4, za_5, za_6, za_7, za_8, za_9, za_10, za_11, za_12, za_13, za_14, za_15, za_16, za_17, za_18, za_19, za_20, za_21, za_22, za_23, za_24, za_25, za_26]
/-- .. of a change that moves the point -/
theorem s_224 (w : zW) {d : Nat} (hd : 2 ≤ d) {s x y z k p : Int} {σ : zMem} {N : Int → Int} (h : 0 ≤ s ∧ s < 24) (eK : σ 210 (11 * s) = k) (hk : 12 ≤ k ∧ k ≤ 15) (eP : σ 210 (11 * s + 1) = p) (eN : ∀ j, σ 210 (11 * s + 5 + j) = N j) (hN : zNV k N) (hx : -429 ≤ x ∧ x ≤ 429) (hy : -429 ≤ y ∧ y ≤ 429) (hz : -429 ≤ z ∧ z ≤ 429) {W : Int}
    (hW : zcall w (d - 1) 219 [zA 13 32 209, zI p, zI (zmv k (N 0) (N 1) (N 2) x y z).1, zI (zmv k (N 0) (N 1) (N 2) x y z).2.1, zI (zmv k (N 0) (N 1) (N 2) x y z).2.2] σ = some (W, σ)) :
    zcall w d 224 [zA 13 32 209, zI s, zI x, zI y, zI z] σ = some (W, σ) := by
  obtain ⟨d, rfl⟩ : ∃ e, d = e + 1 := ⟨d - 1, by omega⟩
  rw [Nat.add_sub_cancel] at hW
  have eN0 := eN 0
  rw [Int.add_zero] at eN0
  rw [eX12_changed]
  simp only [eN0, s_216 w d h (show (0 : Int) ≤ 0 ∧ (0 : Int) < 11 by decide), s_216 w d h (show (0 : Int) ≤ 1 ∧ (1 : Int) < 11 by decide), s_217 w d h (show (0 : Int) ≤ 0 ∧ (0 : Int) < 6 by decide), s_217 w d h (show (0 : Int) ≤ 1 ∧ (1 : Int) < 6 by decide), Option.bind_some, eN, eP, Int.add_zero, eK]
  have : k = 12 ∨ k = 13 ∨ k = 14 ∨ k = 15 := by omega
  rcases this with rfl | rfl | rfl | rfl
  · have v := yV12 hN
    rw [if_pos rfl, hX12_changed_20, s_217 w d h (by decide), Option.bind_some]
    dsimp only
    rw [eN, za_1, zw32_i (by omega), za_1, zw32_i (by omega), za_1, zw32_i (by omega)]
    rw [zmv, if_pos rfl] at hW
    dsimp only at hW
    rw [hW]; rfl
  · have v := yV13 hN
    rw [zmv, if_neg (by decide), if_pos rfl] at hW
    dsimp only at hW
    rw [if_neg (by decide), if_pos rfl]
    have : N 0 = 0 ∨ N 0 = 1 ∨ N 0 = 2 := by omega
    rcases this with e | e | e <;> simp only [e, reduceIte, show ¬ (1 : Int) = 0 by decide, show ¬ (2 : Int) = 0 by decide, show ¬ (0 : Int) = 1 by decide, show ¬ (2 : Int) = 1 by decide, show ¬ (0 : Int) = 2 by decide, show ¬ (1 : Int) = 2 by decide] at hW
    · rw [e, hX12_changed_36, if_pos rfl, s_339 w d ⟨by omega, by omega⟩ (by omega), Option.bind_some]
      dsimp only
      rw [hX12_changed_45, if_neg (by decide), hX12_changed_53, if_neg (by decide), hX12_changed_61, hW]; rfl
    · rw [e, hX12_changed_36, if_neg (by decide), hX12_changed_45, if_pos rfl, s_339 w d ⟨by omega, by omega⟩ (by omega), Option.bind_some]
      dsimp only
      rw [hX12_changed_53, if_neg (by decide), hX12_changed_61, hW]; rfl
    · rw [e, hX12_changed_36, if_neg (by decide), hX12_changed_45, if_neg (by decide), hX12_changed_53, if_pos rfl, s_339 w d ⟨by omega, by omega⟩ (by omega), Option.bind_some]
      dsimp only
      rw [hX12_changed_61, hW]; rfl
  · have v := yV14 hN
    rw [zmv, if_neg (by decide), if_neg (by decide), if_pos rfl] at hW
    dsimp only at hW
    rw [if_neg (by decide), if_neg (by decide), if_pos rfl]
    have m : ∀ u : Int, -429 ≤ u → u ≤ 429 → zar 1 (zar 2 2 (N 1)) u = 2 * N 1 - u := fun u a b => by rw [za_2, zw32_i (by omega), za_1, zw32_i (by omega)]
    have : N 0 = 0 ∨ N 0 = 1 ∨ N 0 = 2 := by omega
    rcases this with e | e | e <;> simp only [e, true_and, false_and, reduceIte, show ¬ (1 : Int) = 0 by decide, show ¬ (2 : Int) = 0 by decide, show ¬ (0 : Int) = 1 by decide, show ¬ (2 : Int) = 1 by decide, show ¬ (0 : Int) = 2 by decide, show ¬ (1 : Int) = 2 by decide] at hW
    · rw [e, hX12_changed_63, if_pos rfl]
      by_cases c : N 1 < x
      · rw [if_pos c] at hW
        rw [if_pos c, m x (by omega) (by omega), hX12_changed_77, if_neg (by decide), hX12_changed_89, hX12_changed_90, if_neg (by decide), hX12_changed_102, hX12_changed_103, hW]; rfl
      · rw [if_neg c] at hW
        rw [if_neg c, hX12_changed_76, hX12_changed_77, if_neg (by decide), hX12_changed_89, hX12_changed_90, if_neg (by decide), hX12_changed_102, hX12_changed_103, hW]; rfl
    · rw [e, hX12_changed_63, if_neg (by decide), hX12_changed_76, hX12_changed_77, if_pos rfl]
      by_cases c : N 1 < y
      · rw [if_pos c] at hW
        rw [if_pos c, m y (by omega) (by omega), hX12_changed_90, if_neg (by decide), hX12_changed_102, hX12_changed_103, hW]; rfl
      · rw [if_neg c] at hW
        rw [if_neg c, hX12_changed_89, hX12_changed_90, if_neg (by decide), hX12_changed_102, hX12_changed_103, hW]; rfl
    · rw [e, hX12_changed_63, if_neg (by decide), hX12_changed_76, hX12_changed_77, if_neg (by decide), hX12_changed_89, hX12_changed_90, if_pos rfl]
      by_cases c : N 1 < z
      · rw [if_pos c] at hW
        rw [if_pos c, m z (by omega) (by omega), hX12_changed_103, hW]; rfl
      · rw [if_neg c] at hW
        rw [if_neg c, hX12_changed_102, hX12_changed_103, hW]; rfl
  · have v := yV15 hN
    rw [zmv, if_neg (by decide), if_neg (by decide), if_neg (by decide), if_pos rfl] at hW
    dsimp only at hW
    rw [if_neg (by decide), if_neg (by decide), if_neg (by decide), if_pos rfl, hX12_changed_105, s_223, Option.bind_some]
    dsimp only
    rw [s_223, Option.bind_some]
    dsimp only
    generalize zpick (N 1) x y z = pv at *
    generalize zpick (N 0) x y z = pu at *
    obtain ⟨v1, v2, v3⟩ := v
    have c0 : N 0 = 0 ∨ N 0 = 1 ∨ N 0 = 2 := by omega
    have c1 : N 1 = 0 ∨ N 1 = 1 ∨ N 1 = 2 := by omega
    rcases c0 with e | e | e <;> rcases c1 with g | g | g <;> (first | (exfalso; omega) | skip) <;> simp only [e, g, reduceIte, show ¬ (1 : Int) = 0 by decide, show ¬ (2 : Int) = 0 by decide, show ¬ (0 : Int) = 1 by decide, show ¬ (2 : Int) = 1 by decide, show ¬ (0 : Int) = 2 by decide, show ¬ (1 : Int) = 2 by decide] at hW <;>
      simp only [e, g, hX12_changed_128, hX12_changed_139, hX12_changed_150, hW, Option.bind_some, reduceIte, show ¬ (1 : Int) = 0 by decide, show ¬ (2 : Int) = 0 by decide, show ¬ (0 : Int) = 1 by decide, show ¬ (2 : Int) = 1 by decide, show ¬ (0 : Int) = 2 by decide, show ¬ (1 : Int) = 2 by decide]
theorem s_219 (w : zW) {n : Int} : ∀ f, yWd w n f := by
  intro f
  induction f with
  | zero =>
    intro d s x y z σ hT hd h0 h1 hf
    have := (hT.2.2 s h0 h1).2.1
    omega
  | succ f ih =>
    intro d s x y z σ hT hd h0 h1 hf hx hy hz
    obtain ⟨d, rfl⟩ : ∃ e, d = e + 1 + 1 := ⟨d - 2, by omega⟩
    have g := hT.2.2 s h0 h1
    obtain ⟨-, g1, g2, g3, g4, g5⟩ := hT.2.2 s h0 h1
    have hs : 0 ≤ s ∧ s < 24 := ⟨h0, by have := hT.2.1; omega⟩
    have eN : ∀ j, σ 210 (11 * s + 5 + j) = (fun i => σ 210 (11 * s + 5 + i)) j := fun _ => rfl
    have n0 : σ 210 (11 * s + 5) = (fun i => σ 210 (11 * s + 5 + i)) 0 := by dsimp only; rw [Int.add_zero]
    have n1 : σ 210 (11 * s + 6) = (fun i => σ 210 (11 * s + 5 + i)) 1 := by dsimp only; rw [ya1]
    have n2 : σ 210 (11 * s + 7) = (fun i => σ 210 (11 * s + 5 + i)) 2 := by dsimp only; rw [ya2]
    rcases yWS g with c | c | c
    · rw [zwd, if_pos (by omega)]
      exact s_219s w (by omega) hs rfl (by omega) eN g5 (by omega) (by omega) (by omega)
    · obtain ⟨c1, c2, c3, c4, c5, c6, c7, c8⟩ := c
      have gp := (hT.2.2 _ c3.1 (by omega)).2
      have gq := (hT.2.2 _ c4.1 (by omega)).2
      have eW : zwd (σ 210) (f + 1) s x y z = zpr (σ 210 (11 * s)) (σ 210 (11 * s + 5)) (σ 210 (11 * s + 6)) (zwd (σ 210) f (σ 210 (11 * s + 1)) x y z) (zwd (σ 210) f (σ 210 (11 * s + 2)) x y z) := by rw [zwd, if_neg (by omega), if_pos (by omega)]
      have e1 := ih (d + 1) (σ 210 (11 * s + 1)) x y z σ hT (by omega) c3.1 (by omega) (by omega) (by omega) (by omega) (by omega)
      have e2 := ih (d + 1) (σ 210 (11 * s + 2)) x y z σ hT (by omega) c4.1 (by omega) (by omega) (by omega) (by omega) (by omega)
      have qp := yQ_up (b' := max (σ 210 (11 * σ 210 (11 * s + 1) + 4)) (σ 210 (11 * σ 210 (11 * s + 2) + 4))) (D' := 6) (by omega) (by omega) (by omega) (yQ_wd hT f _ x y z c3.1 (by omega) (by omega) (by omega) (by omega) (by omega))
      have qq := yQ_up (b' := max (σ 210 (11 * σ 210 (11 * s + 1) + 4)) (σ 210 (11 * σ 210 (11 * s + 2) + 4))) (D' := 6) (by omega) (by omega) (by omega) (yQ_wd hT f _ x y z c4.1 (by omega) (by omega) (by omega) (by omega) (by omega))
      have r0 := s_216 w (d + 1) hs (show (0 : Int) ≤ 0 ∧ (0 : Int) < 11 by decide) σ
      have r1 := s_216 w (d + 1) hs (show (0 : Int) ≤ 1 ∧ (1 : Int) < 11 by decide) σ
      have r2 := s_216 w (d + 1) hs (show (0 : Int) ≤ 2 ∧ (2 : Int) < 11 by decide) σ
      rw [Int.add_zero] at r0
      rw [eX12_worthAt, r0, Option.bind_some, eW]
      dsimp only
      have hb2 : σ 210 (11 * s) = 11 → max (σ 210 (11 * σ 210 (11 * s + 1) + 4)) (σ 210 (11 * σ 210 (11 * s + 2) + 4)) ≤ 1 := by
        intro e
        rw [if_pos e] at c7 c8
        omega
      generalize zwd (σ 210) f (σ 210 (11 * s + 1)) x y z = A at *
      generalize zwd (σ 210) f (σ 210 (11 * s + 2)) x y z = B at *
      have : σ 210 (11 * s) = 8 ∨ σ 210 (11 * s) = 9 ∨ σ 210 (11 * s) = 10 ∨ σ 210 (11 * s) = 11 := by omega
      rcases this with e | e | e | e
      · rw [e]
        simp only [reduceIte, show ¬ (8 : Int) = 3 by decide, show ¬ (8 : Int) = 4 by decide, show ¬ (8 : Int) = 5 by decide, show ¬ (8 : Int) = 6 by decide, show ¬ (8 : Int) = 7 by decide, hX12_worthAt_108, r1, r2, e1, e2, s_344, Option.bind_some, zpr]
      · rw [e]
        simp only [reduceIte, show ¬ (9 : Int) = 3 by decide, show ¬ (9 : Int) = 4 by decide, show ¬ (9 : Int) = 5 by decide, show ¬ (9 : Int) = 6 by decide, show ¬ (9 : Int) = 7 by decide, show ¬ (9 : Int) = 8 by decide, hX12_worthAt_128, r1, r2, e1, e2, s_342, Option.bind_some, zpr]
      · have qB := qq.2.2
        have u1 : zONE = 16003008000 := rfl
        have en : zar 16 B 0 = -B := by rw [za_16, zw64_i (by omega)]
        rw [e]
        simp only [reduceIte, show ¬ (10 : Int) = 3 by decide, show ¬ (10 : Int) = 4 by decide, show ¬ (10 : Int) = 5 by decide, show ¬ (10 : Int) = 6 by decide, show ¬ (10 : Int) = 7 by decide, show ¬ (10 : Int) = 8 by decide, show ¬ (10 : Int) = 9 by decide, hX12_worthAt_148, r1, r2, e1, e2, s_342, Option.bind_some, zpr, en]
      · rw [e] at g5
        have v := yV11 g5
        rw [ya0, ya1] at v
        have eb := s_221 w (d := d + 1) (by omega) hs rfl rfl v.1 v.2 (by decide) ⟨by omega, hb2 e⟩ qp qq
        rw [e]
        simp only [reduceIte, show ¬ (11 : Int) = 3 by decide, show ¬ (11 : Int) = 4 by decide, show ¬ (11 : Int) = 5 by decide, show ¬ (11 : Int) = 6 by decide, show ¬ (11 : Int) = 7 by decide, show ¬ (11 : Int) = 8 by decide, show ¬ (11 : Int) = 9 by decide, show ¬ (11 : Int) = 10 by decide, hX12_worthAt_169, r1, r2, e1, e2, eb, Option.bind_some, zpr]
    · obtain ⟨c1, c2, c3, c4, c5, c6⟩ := c
      have gp := (hT.2.2 _ c3.1 (by omega)).2
      have eW : zwd (σ 210) (f + 1) s x y z = zch (σ 210 (11 * s)) (σ 210 (11 * s + 5)) (σ 210 (11 * s + 6)) (zwd (σ 210) f (σ 210 (11 * s + 1)) (zmv (σ 210 (11 * s)) (σ 210 (11 * s + 5)) (σ 210 (11 * s + 6)) (σ 210 (11 * s + 7)) x y z).1 (zmv (σ 210 (11 * s)) (σ 210 (11 * s + 5)) (σ 210 (11 * s + 6)) (σ 210 (11 * s + 7)) x y z).2.1 (zmv (σ 210 (11 * s)) (σ 210 (11 * s + 5)) (σ 210 (11 * s + 6)) (σ 210 (11 * s + 7)) x y z).2.2) := by rw [zwd, if_neg (by omega), if_neg (by omega)]
      have r0 := s_216 w (d + 1) hs (show (0 : Int) ≤ 0 ∧ (0 : Int) < 11 by decide) σ
      rw [Int.add_zero] at r0
      have m := ymv_b ⟨c1, c2⟩ g5 (C := 429 - 55 * σ 210 (11 * s + 3)) (by omega) hx hy hz
      rw [eX12_worthAt, r0, Option.bind_some]
      dsimp only
      rw [if_neg (by omega), if_neg (by omega), if_neg (by omega), if_neg (by omega), if_neg (by omega), if_neg (by omega), if_neg (by omega), if_neg (by omega), if_neg (by omega), hX12_worthAt_191]
      by_cases cg : σ 210 (11 * s) = 16 ∨ σ 210 (11 * s) = 17
      · have em : zmv (σ 210 (11 * s)) (σ 210 (11 * s + 5)) (σ 210 (11 * s + 6)) (σ 210 (11 * s + 7)) x y z = (x, y, z) := by
          rw [zmv, if_neg (by omega), if_neg (by omega), if_neg (by omega), if_neg (by omega)]
        rw [em] at eW
        dsimp only at eW
        have e1 := ih d (σ 210 (11 * s + 1)) x y z σ hT (by omega) c3.1 (by omega) (by omega) (by omega) (by omega) (by omega)
        have qp := (yQ_up (b' := 2) (D' := 6) (by omega) (by omega) (by omega) (yQ_wd hT f _ x y z c3.1 (by omega) (by omega) (by omega) (by omega) (by omega))).2.2
        have nb : (-99 ≤ σ 210 (11 * s + 5) ∧ σ 210 (11 * s + 5) ≤ 99) ∧ 1 ≤ σ 210 (11 * s + 6) ∧ σ 210 (11 * s + 6) ≤ 9 := by
          rw [n0, n1]
          rcases cg with e | e
          · rw [e] at g5; exact yV16 g5
          · rw [e] at g5; exact yV17 g5
        have o := yONE_h nb.2 nb.1
        have u1 : zONE = 16003008000 := rfl
        have eg := s_222 w (d := d) (by omega) hs rfl rfl nb.1 nb.2
        have q0 := s_216 w d hs (show (0 : Int) ≤ 0 ∧ (0 : Int) < 11 by decide) σ
        have q1 := s_216 w d hs (show (0 : Int) ≤ 1 ∧ (1 : Int) < 11 by decide) σ
        have q2 := s_217 w d hs (show (0 : Int) ≤ 0 ∧ (0 : Int) < 6 by decide) σ
        have q3 := s_217 w d hs (show (0 : Int) ≤ 1 ∧ (1 : Int) < 6 by decide) σ
        rw [Int.add_zero] at q0 q2
        rw [ya1] at q3
        rw [eW, eX12_changed, q1, Option.bind_some]
        dsimp only
        rw [q2, Option.bind_some]
        dsimp only
        rw [q3, Option.bind_some]
        dsimp only
        rw [q0, Option.bind_some]
        dsimp only
        generalize zwd (σ 210) f (σ 210 (11 * s + 1)) x y z = A at *
        generalize hO : zONE / σ 210 (11 * s + 6) * σ 210 (11 * s + 5) = O at *
        rcases cg with cg | cg
        · rw [cg, if_neg (by decide), if_neg (by decide), if_neg (by decide), if_neg (by decide), if_pos rfl, hX12_changed_152, e1, Option.bind_some]
          dsimp only
          rw [eg, Option.bind_some]
          dsimp only
          rw [Option.bind_some, zch, if_pos rfl, hO, za_13, zw64_i (by omega)]
        · rw [cg, if_neg (by decide), if_neg (by decide), if_neg (by decide), if_neg (by decide), if_neg (by decide), hX12_changed_163, e1, Option.bind_some]
          dsimp only
          rw [s_340 w d (by omega), Option.bind_some]
          dsimp only
          rw [eg, Option.bind_some]
          dsimp only
          rw [Option.bind_some, zch, if_neg (by decide), if_pos rfl, hO, za_13, zw64_i (by omega)]
      · have e1 : zcall w d 219 [zA 13 32 209, zI (σ 210 (11 * s + 1)), zI (zmv (σ 210 (11 * s)) (σ 210 (11 * s + 5)) (σ 210 (11 * s + 6)) (σ 210 (11 * s + 7)) x y z).1, zI (zmv (σ 210 (11 * s)) (σ 210 (11 * s + 5)) (σ 210 (11 * s + 6)) (σ 210 (11 * s + 7)) x y z).2.1, zI (zmv (σ 210 (11 * s)) (σ 210 (11 * s + 5)) (σ 210 (11 * s + 6)) (σ 210 (11 * s + 7)) x y z).2.2] σ
            = some (zwd (σ 210) (f + 1) s x y z, σ) := by
          rw [ya0, ya1, ya2] at m
          rw [eW, zch, if_neg (by omega), if_neg (by omega)]
          exact ih d (σ 210 (11 * s + 1)) _ _ _ σ hT (by omega) c3.1 (by omega) (by omega) (by omega) (by omega) (by omega)
        rw [n0, n1, n2] at e1
        have := s_224 w (d := d + 1) (by omega) hs rfl (by omega) rfl eN g5 (by omega) (by omega) (by omega) e1
        rw [this, Option.bind_some]
end
