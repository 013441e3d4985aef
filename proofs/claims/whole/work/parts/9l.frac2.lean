section
/-! The class' fractions: its methods -/
/-- object f holds W units -/
def yA (σ : zMem) (f W : Int) : Prop := yF W (σ f 0) (σ f 1)
theorem yA_c {σ σ' : zMem} {f g W : Int} (h0 : σ' g 0 = σ f 0) (h1 : σ' g 1 = σ f 1) (t : yA σ f W) : yA σ' g W := by unfold yA; rw [h0, h1]; exact t
/-- all but one object -/
def yK (σ σ' : zMem) (f : Int) : Prop := ∀ a k, a ≠ f → σ' a k = σ a k
theorem yK_2 {σ : zMem} {f u v : Int} : yK σ (zup (zup σ f 0 u) f 1 v) f := fun a k h => by rw [zup_f (Or.inl h), zup_f (Or.inl h)]
theorem yK_1 {σ : zMem} {f u : Int} {j : Int} : yK σ (zup σ f j u) f := fun a k h => zup_f (Or.inl h)
theorem yA_2 {σ : zMem} {f u v W : Int} (hf : f ≠ 0) (h : yF W u v) : yA (zup (zup σ f 0 u) f 1 v) f W := by
  unfold yA
  rw [zup_f (Or.inr (by decide)), zup_t ⟨rfl, rfl, hf⟩, zup_t ⟨rfl, rfl, hf⟩]; exact h
theorem s_13 (w : zW) (d : Nat) {f W : Int} {σ : zMem} (h : yA σ f W) : zcall w d 13 [zA 2 2 f] σ = some (zt (0 < W), σ) := by
  have := (yF_0 h).1
  rw [eX1_isAboveZero, zcmp_gt, zt]
  by_cases c : 0 < W
  · rw [if_pos (this.2 c), if_pos c]
  · rw [if_neg (fun u => c (this.1 u)), if_neg c]
theorem s_14 (w : zW) (d : Nat) {f W : Int} {σ : zMem} (h : yA σ f W) : zcall w d 14 [zA 2 2 f] σ = some (zt (W < 0), σ) := by
  have := (yF_0 h).2
  rw [eX1_isBelowZero, zcmp_lt, zt]
  by_cases c : W < 0
  · rw [if_pos (this.2 c), if_pos c]
  · rw [if_neg (fun u => c (this.1 u)), if_neg c]
theorem s_15 (w : zW) (d : Nat) {f g W V b D : Int} {σ : zMem} (hD : 0 ≤ D ∧ D ≤ 6) (h : yA σ f W) (q : yQ b D W) (h' : yA σ g V) (q' : yQ b D V) : zcall w d 15 [zA 2 2 f, zA 2 2 g] σ = some (zt (V < W), σ) := by
  have c1 := yC_q h q hD
  have c2 := yC_q h' q' hD
  have m1 := yC_m c1 c2
  have m2 := yC_m c2 c1
  have k := yF_lt h h'
  rw [eX1_isAbove, zcmp_gt, za_14, za_14, zw64_i (by omega), zw64_i (by omega), zt]
  by_cases c : V < W
  · rw [if_pos (k.2 c), if_pos c]
  · rw [if_neg (fun u => c (k.1 u)), if_neg c]
theorem s_16 (w : zW) (d : Nat) {f : Int} (hf : f ≠ 0) (v : Int) (σ : zMem) : ∃ σ', zcall w d 16 [zA 2 2 f, zJ v] σ = some (0, σ') ∧ yA σ' f (v * zONE) ∧ yK σ σ' f :=
  ⟨_, eX1_putWhole w d f v σ, yA_2 hf ⟨by decide, by omega, Int.gcd_one⟩, yK_2⟩
theorem s_18 (w : zW) (d : Nat) {f g W : Int} (hf : f ≠ 0) (n : g ≠ f) {σ : zMem} (h : yA σ g W) : ∃ σ', zcall w d 18 [zA 2 2 f, zA 2 2 g] σ = some (0, σ') ∧ yA σ' f W ∧ yK σ σ' f := by
  refine ⟨_, eX1_take w d f g σ, yA_2 hf ?_, yK_2⟩
  rw [zup_f (Or.inl n)]
  exact h
theorem s_19 (w : zW) {d : Nat} (hd : 1 ≤ d) {f g W V b D : Int} (hf : f ≠ 0) (n : g ≠ f) {σ : zMem} (hD : 0 ≤ D ∧ D ≤ 6) (h : yA σ f W) (q : yQ b D W) (h' : yA σ g V) (q' : yQ b D V) : ∃ σ', zcall w d 19 [zA 2 2 f, zA 2 2 g] σ = some (0, σ') ∧ yA σ' f (min W V) ∧ yK σ σ' f := by
  obtain ⟨d, rfl⟩ : ∃ e, d = e + 1 := ⟨d - 1, by omega⟩
  rw [eX1_takeLesser, s_15 w d hD h q h' q', Option.bind_some]
  dsimp only
  rw [zt_if]
  by_cases c : V < W
  · obtain ⟨σ', e, a, k⟩ := s_18 w d hf n h'
    rw [if_pos c, e, Int.min_eq_right (by omega)]
    exact ⟨σ', rfl, a, k⟩
  · rw [if_neg c, Int.min_eq_left (by omega)]
    exact ⟨σ, rfl, h, fun _ _ _ => rfl⟩
theorem s_20 (w : zW) {d : Nat} (hd : 1 ≤ d) {f g W V b D : Int} (hf : f ≠ 0) (n : g ≠ f) {σ : zMem} (hD : 0 ≤ D ∧ D ≤ 6) (h : yA σ f W) (q : yQ b D W) (h' : yA σ g V) (q' : yQ b D V) : ∃ σ', zcall w d 20 [zA 2 2 f, zA 2 2 g] σ = some (0, σ') ∧ yA σ' f (max W V) ∧ yK σ σ' f := by
  obtain ⟨d, rfl⟩ : ∃ e, d = e + 1 := ⟨d - 1, by omega⟩
  rw [eX1_takeGreater, s_15 w d hD h' q' h q, Option.bind_some]
  dsimp only
  rw [zt_if]
  by_cases c : W < V
  · obtain ⟨σ', e, a, k⟩ := s_18 w d hf n h'
    rw [if_pos c, e, Int.max_eq_right (by omega)]
    exact ⟨σ', rfl, a, k⟩
  · rw [if_neg c, Int.max_eq_left (by omega)]
    exact ⟨σ, rfl, h, fun _ _ _ => rfl⟩
theorem s_22 (w : zW) (d : Nat) {f W b D : Int} (hf : f ≠ 0) {σ : zMem} (hD : 0 ≤ D ∧ D ≤ 6) (h : yA σ f W) (q : yQ b D W) : ∃ σ', zcall w d 22 [zA 2 2 f] σ = some (0, σ') ∧ yA σ' f (-W) ∧ yK σ σ' f := by
  obtain ⟨-, c1, c2⟩ := yC_q h q hD
  refine ⟨_, eX1_turnSign w d f σ, ?_, yK_1⟩
  unfold yA
  rw [zup_t ⟨rfl, rfl, hf⟩, zup_f (Or.inr (by decide)), za_16, zw64_i (by omega)]
  exact yF_neg h
theorem s_23 (w : zW) {d : Nat} (hd : 1 ≤ d) {f W b D : Int} (hf : f ≠ 0) {σ : zMem} (hD : 0 ≤ D ∧ D ≤ 6) (h : yA σ f W) (q : yQ b D W) : ∃ σ', zcall w d 23 [zA 2 2 f] σ = some (0, σ') ∧ yA σ' f (max W (-W)) ∧ yK σ σ' f := by
  obtain ⟨d, rfl⟩ : ∃ e, d = e + 1 := ⟨d - 1, by omega⟩
  obtain ⟨-, c1, c2⟩ := yC_q h q hD
  rw [eX1_becomeAmount, s_340 w d (by omega), Option.bind_some]
  refine ⟨_, rfl, ?_, yK_1⟩
  unfold yA
  rw [zup_t ⟨rfl, rfl, hf⟩, zup_f (Or.inr (by decide))]
  exact yF_abs h
theorem s_24 (w : zW) {d : Nat} (hd : 2 ≤ d) {f W b D g k : Int} (hf : f ≠ 0) {σ : zMem} (hD : 0 ≤ D ∧ D ≤ 6) (h : yA σ f W) (q : yQ b D W) (hg : -99 ≤ g ∧ g ≤ 99) (hk : 1 ≤ k ∧ k ≤ 9) : ∃ σ', zcall w d 24 [zA 2 2 f, zI g, zI k] σ = some (0, σ') ∧ yA σ' f (W - zONE / k * g) ∧ yK σ σ' f := by
  obtain ⟨d, rfl⟩ : ∃ e, d = e + 1 := ⟨d - 1, by omega⟩
  obtain ⟨c0, c1, c2⟩ := yC_q h q hD
  have b1 := ymul_b (x := 1292132262960) ⟨c1, c2⟩ (show 0 ≤ k ∧ k ≤ 9 by omega)
  have b2 := ymul_b hg (show 0 ≤ σ f 1 ∧ σ f 1 ≤ 1837080 by omega)
  have b3 := ymul_b (a := σ f 1) (x := 1837080) (by omega) (show 0 ≤ k ∧ k ≤ 9 by omega)
  have b4 : 0 < σ f 1 * k := Int.mul_pos c0.1 (by omega)
  rw [eX1_lessen, za_14, za_14, za_14, za_13, zw64_i (z := σ f 0 * k) (by omega), zw64_i (z := g * σ f 1) (by omega), zw64_i (z := σ f 1 * k) (by omega), zw64_i (by omega), s_17 w (by omega) f (by omega) (by omega), Option.bind_some]
  exact ⟨_, rfl, yA_2 hf (yF_put b4 (yF_ls h hk)), yK_2⟩
theorem s_25 (w : zW) {d : Nat} (hd : 2 ≤ d) {f g W V b D k t : Int} (hf : f ≠ 0) {σ : zMem} (hD : 0 ≤ D ∧ D ≤ 6) (hb : 0 ≤ b ∧ b ≤ 1) (h : yA σ f W) (q : yQ b D W) (h' : yA σ g V) (q' : yQ b D V) (hk : 1 ≤ k ∧ k ≤ 9) (ht : 0 ≤ t ∧ t ≤ k) : ∃ σ', zcall w d 25 [zA 2 2 f, zA 2 2 g, zI k, zI t] σ = some (0, σ') ∧ yA σ' f ((W * (k - t) + V * t) / k) ∧ yK σ σ' f := by
  obtain ⟨d, rfl⟩ : ∃ e, d = e + 1 := ⟨d - 1, by omega⟩
  obtain ⟨c0, c1, c2⟩ := yc_q h q hD hb.2
  obtain ⟨c0', c1', c2'⟩ := yc_q h' q' hD hb.2
  obtain ⟨K, -, ex, -⟩ := yQ_ex (t := t) q q' hb hk
  have b1 := ymul_b (x := 15952250160) ⟨c1, c2⟩ (show 0 ≤ σ g 1 ∧ σ g 1 ≤ 22680 by omega)
  have b2 := ymul_b (x := 15952250160) ⟨c1', c2'⟩ (show 0 ≤ σ f 1 ∧ σ f 1 ≤ 22680 by omega)
  have b3 := ymul_b (x := 15952250160 * 22680) b1 (show 0 ≤ k - t ∧ k - t ≤ 9 by omega)
  have b4 := ymul_b (x := 15952250160 * 22680) b2 (show 0 ≤ t ∧ t ≤ 9 by omega)
  have b5 := ymul_b (a := σ f 1) (x := 22680) (by omega) (show 0 ≤ σ g 1 ∧ σ g 1 ≤ 22680 by omega)
  have b6 := ymul_b (x := 22680 * 22680) b5 (show 0 ≤ k ∧ k ≤ 9 by omega)
  have b7 : 0 < σ f 1 * σ g 1 * k := Int.mul_pos (Int.mul_pos c0.1 c0'.1) (by omega)
  rw [eX1_mix, za_1, zw32_i (by omega), za_14, za_14, za_14, za_14, za_14, za_14, za_12, zw64_i (z := σ f 0 * σ g 1) (by omega), zw64_i (z := σ g 0 * σ f 1) (by omega), zw64_i (z := σ f 1 * σ g 1) (by omega), zw64_i (z := σ f 0 * σ g 1 * (k - t)) (by omega), zw64_i (z := σ g 0 * σ f 1 * t) (by omega), zw64_i (z := σ f 1 * σ g 1 * k) (by omega), zw64_i (by omega), s_17 w (by omega) f (by omega) (by omega), Option.bind_some]
  exact ⟨_, rfl, yA_2 hf (yF_put b7 (yF_mx h h' ex)), yK_2⟩
end
