section
/-! A shape's bounds over a region, as the reference finds them: changes, pairs, all -/
theorem s_242 (w : zW) {d : Nat} (hd : 2 ≤ d) {s k A B b D : Int} {σ : zMem} (h : 0 ≤ s ∧ s < 24) (eK : σ 210 (11 * s) = k) (hk : k = 16 ∨ k = 17) (hg : -99 ≤ σ 210 (11 * s + 5) ∧ σ 210 (11 * s + 5) ≤ 99) (hh : 1 ≤ σ 210 (11 * s + 6) ∧ σ 210 (11 * s + 6) ≤ 9) (eA : σ 212 0 = A) (eB : σ 213 0 = B) (hD : 0 ≤ D ∧ D ≤ 6) (qA : yQ b D A) (qB : yQ b D B) :
    ∃ σ', zcall w d 242 [zA 13 32 209, zI s, zI 0] σ = some (0, σ') ∧ yE2 σ σ' (zcb k (σ 210 (11 * s + 5)) (σ 210 (11 * s + 6)) (A, B)) := by
  obtain ⟨d, rfl⟩ : ∃ e, d = e + 1 := ⟨d - 1, by omega⟩
  have z9 : (0 : Int) ≤ 0 ∧ (0 : Int) < 9 := by decide
  have u1 : zONE = 16003008000 := rfl
  have o := yONE_h hh hg
  have m : (702768 + 99 * D) * zONE ≤ 703362 * 16003008000 := Int.mul_le_mul_of_nonneg_right (c := zONE) (show 702768 + 99 * D ≤ 703362 by omega) (by decide)
  obtain ⟨-, -, a1, a2⟩ := qA
  obtain ⟨-, -, b1, b2⟩ := qB
  generalize (702768 + 99 * D) * zONE = U at *
  have e222 : ∀ μ : zMem, (∀ j, μ 210 j = σ 210 j) → zcall w d 222 [zA 13 32 209, zI s] μ = some (zONE / σ 210 (11 * s + 6) * σ 210 (11 * s + 5), μ) := fun μ e => s_222 w (by omega) h (e _) (e _) hg hh
  generalize hO : zONE / σ 210 (11 * s + 6) * σ 210 (11 * s + 5) = O at *
  have tail : ∀ (μ : zMem) (X Y : Int), μ 212 0 = X → μ 213 0 = Y → (∀ c k, c ≠ 212 → c ≠ 213 → μ c k = σ c k) → (-U ≤ X ∧ X ≤ U) → (-U ≤ Y ∧ Y ≤ U) →
      ∃ σ', ((zcall w d 222 [zA 13 32 209, zI s] μ).bind fun r6 => if (0 : Int) ≤ 0 ∧ (0 : Int) < 9 then if (0 : Int) ≤ 0 ∧ (0 : Int) < 9 then (zcall w d 222 [zA 13 32 209, zI s] (zup r6.2 212 0 (zar 13 (μ 212 0) r6.1))).bind fun r7 => if (0 : Int) ≤ 0 ∧ (0 : Int) < 9 then some ((0 : Int), zup r7.2 213 0 (zar 13 ((zup r6.2 212 0 (zar 13 (μ 212 0) r6.1)) 213 0) r7.1)) else none else none else none) = some (0, σ') ∧ yE2 σ σ' (X - O, Y - O) := by
    intro μ X Y eX eY fr bX bY
    rw [e222 μ (fun j => fr _ _ (by decide) (by decide)), Option.bind_some]
    dsimp only
    rw [if_pos z9, if_pos z9, e222 _ (fun j => (zup_f (by omega)).trans (fr _ _ (by decide) (by decide))), Option.bind_some]
    dsimp only
    rw [if_pos z9, eX, zup_f (by omega), eY, za_13, zw64_i (by omega), za_13, zw64_i (by omega)]
    refine ⟨_, rfl, ?_, ?_, fun c k h g => ?_⟩
    · rw [zup_f (by omega), zup_t ⟨rfl, rfl, by decide⟩]
    · rw [zup_t ⟨rfl, rfl, by decide⟩]
    · rw [zup_f (by omega), zup_f (by omega)]; exact fr c k h g
  have q0 := s_216 w d h (show (0 : Int) ≤ 0 ∧ (0 : Int) < 11 by decide) σ
  rw [Int.add_zero, eK] at q0
  rw [eX12_boundGrown, q0, Option.bind_some]
  dsimp only
  rcases hk with rfl | rfl
  · rw [if_neg (by decide), if_pos z9]
    obtain ⟨σ', e, f⟩ := tail σ A B eA eB (fun _ _ _ _ => rfl) ⟨a1, a2⟩ ⟨b1, b2⟩
    rw [e, zcb, if_pos rfl, hO]
    exact ⟨σ', rfl, f⟩
  · rw [if_pos rfl, if_pos z9, eA, s_340 w d (by omega), Option.bind_some]
    dsimp only
    rw [if_pos z9, eB, s_340 w d (by omega), Option.bind_some]
    dsimp only
    rw [if_pos z9]
    simp only [eA, eB, zcmp_gt, zcmp_lt]
    have eC : zcb 17 (σ 210 (11 * s + 5)) (σ 210 (11 * s + 6)) (A, B) = ((if A ≤ 0 ∧ 0 ≤ B then 0 else min (max A (-A)) (max B (-B))) - O, max (max A (-A)) (max B (-B)) - O) := by rw [zcb, if_neg (by decide), if_pos rfl, hO]
    rw [eC]
    have fr : ∀ X Y : Int, ∀ c k, c ≠ 212 → c ≠ 213 → zup (zup σ 212 0 X) 213 0 Y c k = σ c k := fun X Y c k h g => by rw [zup_f (by omega), zup_f (by omega)]
    have g1 : ∀ X Y : Int, zup (zup σ 212 0 X) 213 0 Y 212 0 = X := fun X Y => by rw [zup_f (by omega), zup_t ⟨rfl, rfl, by decide⟩]
    have g2 : ∀ X Y : Int, zup (zup σ 212 0 X) 213 0 Y 213 0 = Y := fun X Y => by rw [zup_t ⟨rfl, rfl, by decide⟩]
    by_cases c1 : 0 < A
    · obtain ⟨σ', e, f⟩ := tail _ _ _ (g1 (min (max A (-A)) (max B (-B))) (max (max A (-A)) (max B (-B)))) (g2 _ _) (fr _ _) (by omega) (by omega)
      rw [if_pos c1, s_344, Option.bind_some]
      dsimp only
      rw [if_pos z9, s_342, Option.bind_some]
      dsimp only
      rw [if_pos z9, if_pos z9, e, if_neg (by omega)]
      exact ⟨σ', rfl, f⟩
    · rw [if_neg c1, if_pos z9]
      by_cases c2 : B < 0
      · obtain ⟨σ', e, f⟩ := tail _ _ _ (g1 (min (max A (-A)) (max B (-B))) (max (max A (-A)) (max B (-B)))) (g2 _ _) (fr _ _) (by omega) (by omega)
        rw [if_pos c2, s_344, Option.bind_some]
        dsimp only
        rw [if_pos z9, s_342, Option.bind_some]
        dsimp only
        rw [if_pos z9, if_pos z9, e, if_neg (by omega)]
        exact ⟨σ', rfl, f⟩
      · obtain ⟨σ', e, f⟩ := tail _ _ _ (g1 0 (max (max A (-A)) (max B (-B)))) (g2 _ _) (fr _ _) (by omega) (by omega)
        rw [if_neg c2, if_pos z9, s_342, Option.bind_some]
        dsimp only
        rw [if_pos z9, if_pos z9, e, if_pos (by omega)]
        exact ⟨σ', rfl, f⟩
def yBa (s : Int) (R : zrg) : List zV := [zA 13 32 209, zI s, zI 0, zI R.1.1, zI R.1.2, zI R.2.1.1, zI R.2.1.2, zI R.2.2.1, zI R.2.2.2]
theorem s_240 (w : zW) {d : Nat} (hd : 4 ≤ d) {s k p : Int} {R : zrg} {V : Int × Int} {σ : zMem} {N : Int → Int} (h : 0 ≤ s ∧ s < 24) (eK : σ 210 (11 * s) = k) (hk : 12 ≤ k ∧ k ≤ 15) (eP : σ 210 (11 * s + 1) = p) (eN : ∀ j, σ 210 (11 * s + 5 + j) = N j) (hN : zNV k N) (hb : yrb 429 R)
    (hW : ∀ e, d ≤ e + 2 → ∃ σ', zcall w e 230 (yBa p (zmvr k (N 0) (N 1) (N 2) R)) σ = some (0, σ') ∧ yE2 σ σ' V) :
    ∃ σ', zcall w d 240 (yBa s R) σ = some (0, σ') ∧ yE2 σ σ' V := by
  obtain ⟨d, rfl⟩ : ∃ e, d = e + 1 + 1 := ⟨d - 2, by omega⟩
  obtain ⟨σ', eW, fW⟩ := hW (d + 1) (by omega)
  obtain ⟨⟨x0, x1⟩, ⟨y0, y1⟩, z0, z1⟩ := hb
  obtain ⟨⟨a0, a1⟩, ⟨b0, b1⟩, c0, c1⟩ := R
  dsimp only at x0 x1 y0 y1 z0 z1
  have q0 := s_216 w (d + 1) h (show (0 : Int) ≤ 0 ∧ (0 : Int) < 11 by decide) σ
  have q1 := s_216 w (d + 1) h (show (0 : Int) ≤ 1 ∧ (1 : Int) < 11 by decide) σ
  have p0 := s_217 w (d + 1) h (show (0 : Int) ≤ 0 ∧ (0 : Int) < 6 by decide) σ
  have p1 := s_217 w (d + 1) h (show (0 : Int) ≤ 1 ∧ (1 : Int) < 6 by decide) σ
  rw [Int.add_zero, eK] at q0
  rw [eP] at q1
  rw [eN] at p0 p1
  show ∃ σ', zcall w (d + 1 + 1) 240 [zA 13 32 209, zI s, zI 0, zI a0, zI a1, zI b0, zI b1, zI c0, zI c1] σ = some (0, σ') ∧ yE2 σ σ' V
  rw [eX12_boundChange, q1, Option.bind_some]
  dsimp only
  rw [p0, Option.bind_some]
  dsimp only
  rw [p1, Option.bind_some]
  dsimp only
  rw [q0, Option.bind_some]
  dsimp only
  have : k = 12 ∨ k = 13 ∨ k = 14 ∨ k = 15 := by omega
  rcases this with rfl | rfl | rfl | rfl
  · have v := yV12 hN
    have sb : ∀ u n : Int, -429 ≤ u → u ≤ 429 → -40 ≤ n → n ≤ 55 → zar 1 u n = u - n := fun u n a b c e => by rw [za_1, zw32_i (by omega)]
    rw [zmvr, if_pos rfl] at eW
    dsimp only [yBa] at eW
    rw [if_pos rfl, hX12_boundChange_20, s_217 w (d + 1) h (by decide), Option.bind_some]
    dsimp only
    rw [eN, sb _ _ x0.1 x0.2 v.1.1 v.1.2, sb _ _ x1.1 x1.2 v.1.1 v.1.2, sb _ _ y0.1 y0.2 v.2.1.1 v.2.1.2, sb _ _ y1.1 y1.2 v.2.1.1 v.2.1.2, sb _ _ z0.1 z0.2 v.2.2.1 v.2.2.2, sb _ _ z1.1 z1.2 v.2.2.1 v.2.2.2, eW, Option.bind_some, hX12_boundChange_189]
    exact ⟨σ', rfl, fW⟩
  · have v := yV13 hN
    rw [zmvr, if_neg (by decide), if_pos rfl] at eW
    dsimp only [yBa] at eW
    rw [if_neg (by decide), if_pos rfl]
    have fx := s_236 w (d := d + 1) (by omega) (a := a0) (b := a1) (by omega) (by omega) v.2 σ
    have gx := s_237 w (d := d + 1) (by omega) (a := a0) (b := a1) (by omega) (by omega) v.2 σ
    have fy := s_236 w (d := d + 1) (by omega) (a := b0) (b := b1) (by omega) (by omega) v.2 σ
    have gy := s_237 w (d := d + 1) (by omega) (a := b0) (b := b1) (by omega) (by omega) v.2 σ
    have fz := s_236 w (d := d + 1) (by omega) (a := c0) (b := c1) (by omega) (by omega) v.2 σ
    have gz := s_237 w (d := d + 1) (by omega) (a := c0) (b := c1) (by omega) (by omega) v.2 σ
    refine ⟨σ', ?_, fW⟩
    have : N 0 = 0 ∨ N 0 = 1 ∨ N 0 = 2 := by omega
    rcases this with e | e | e <;> simp only [e, reduceIte, show ¬ (1 : Int) = 0 by decide, show ¬ (2 : Int) = 0 by decide, show ¬ (0 : Int) = 1 by decide, show ¬ (2 : Int) = 1 by decide, show ¬ (0 : Int) = 2 by decide, show ¬ (1 : Int) = 2 by decide] at eW <;>
      simp only [e, reduceIte, show ¬ (1 : Int) = 0 by decide, show ¬ (2 : Int) = 0 by decide, show ¬ (0 : Int) = 1 by decide, show ¬ (2 : Int) = 1 by decide, show ¬ (0 : Int) = 2 by decide, show ¬ (1 : Int) = 2 by decide, hX12_boundChange_48, hX12_boundChange_59, hX12_boundChange_67, hX12_boundChange_76, hX12_boundChange_85, hX12_boundChange_94, hX12_boundChange_103, hX12_boundChange_189, fx, gx, fy, gy, fz, gz, eW, Option.bind_some]
  · have v := yV14 hN
    rw [zmvr, if_neg (by decide), if_neg (by decide), if_pos rfl] at eW
    dsimp only [yBa] at eW
    rw [if_neg (by decide), if_neg (by decide), if_pos rfl]
    have fx := s_238 w (d := d + 1) (by omega) (a := a0) (b := a1) (by omega) (by omega) v.2 σ
    have gx := s_239 w (d + 1) (a := a0) (b := a1) (by omega) (by omega) v.2 σ
    have fy := s_238 w (d := d + 1) (by omega) (a := b0) (b := b1) (by omega) (by omega) v.2 σ
    have gy := s_239 w (d + 1) (a := b0) (b := b1) (by omega) (by omega) v.2 σ
    have fz := s_238 w (d := d + 1) (by omega) (a := c0) (b := c1) (by omega) (by omega) v.2 σ
    have gz := s_239 w (d + 1) (a := c0) (b := c1) (by omega) (by omega) v.2 σ
    refine ⟨σ', ?_, fW⟩
    have : N 0 = 0 ∨ N 0 = 1 ∨ N 0 = 2 := by omega
    rcases this with e | e | e <;> simp only [e, reduceIte, show ¬ (1 : Int) = 0 by decide, show ¬ (2 : Int) = 0 by decide, show ¬ (0 : Int) = 1 by decide, show ¬ (2 : Int) = 1 by decide, show ¬ (0 : Int) = 2 by decide, show ¬ (1 : Int) = 2 by decide] at eW <;>
      simp only [e, reduceIte, show ¬ (1 : Int) = 0 by decide, show ¬ (2 : Int) = 0 by decide, show ¬ (0 : Int) = 1 by decide, show ¬ (2 : Int) = 1 by decide, show ¬ (0 : Int) = 2 by decide, show ¬ (1 : Int) = 2 by decide, hX12_boundChange_105, hX12_boundChange_116, hX12_boundChange_124, hX12_boundChange_133, hX12_boundChange_142, hX12_boundChange_151, hX12_boundChange_160, hX12_boundChange_189, fx, gx, fy, gy, fz, gz, eW, Option.bind_some]
  · obtain ⟨v0, v1, v2⟩ := yV15 hN
    obtain ⟨σ', eW, fW⟩ := hW d (by omega)
    rw [zmvr, if_neg (by decide), if_neg (by decide), if_neg (by decide), if_pos rfl] at eW
    dsimp only [yBa] at eW
    rw [if_neg (by decide), if_neg (by decide), if_neg (by decide), if_pos rfl]
    refine ⟨σ', ?_, fW⟩
    have e0 : N 0 = 0 ∨ N 0 = 1 ∨ N 0 = 2 := by omega
    have e1 : N 1 = 0 ∨ N 1 = 1 ∨ N 1 = 2 := by omega
    rcases e0 with e | e | e <;> rcases e1 with g | g | g <;> (first | (exfalso; omega) | skip) <;> simp only [e, g, zpk, reduceIte, show ¬ (1 : Int) = 0 by decide, show ¬ (2 : Int) = 0 by decide, show ¬ (0 : Int) = 1 by decide, show ¬ (2 : Int) = 1 by decide, show ¬ (0 : Int) = 2 by decide, show ¬ (1 : Int) = 2 by decide] at eW <;>
      simp only [e, g, zpick, s_223, reduceIte, show ¬ (1 : Int) = 0 by decide, show ¬ (2 : Int) = 0 by decide, show ¬ (0 : Int) = 1 by decide, show ¬ (2 : Int) = 1 by decide, show ¬ (0 : Int) = 2 by decide, show ¬ (1 : Int) = 2 by decide, hX12_boundChange_162, eX12_boundTurn, hX12_boundTurn_36, hX12_boundTurn_45, hX12_boundTurn_56, hX12_boundTurn_67, hX12_boundTurn_78, hX12_boundTurn_89, hX12_boundChange_189, eW, Option.bind_some]
def yRd (w : zW) (n : Int) (f : Nat) : Prop := ∀ (d : Nat) (s : Int) (R : zrg) (σ : zMem), zWF (σ 210) n → 3 * f + 4 ≤ d → 0 ≤ s → s < n → σ 210 (11 * s + 3) < f → yrb (429 - 55 * σ 210 (11 * s + 3)) R →
  ∃ σ', zcall w d 230 (yBa s R) σ = some (0, σ') ∧ yE2 σ σ' (zbd (σ 210) f s R)
theorem s_230 (w : zW) {n : Int} : ∀ f, yRd w n f := by
  intro f
  induction f with
  | zero =>
    intro d s R σ hT hd h0 h1 hf
    have := (hT.2.2 s h0 h1).2.1
    omega
  | succ f ih =>
    intro d s R σ hT hd h0 h1 hf hb
    have g := hT.2.2 s h0 h1
    obtain ⟨-, g1, g2, g3, g4, g5⟩ := hT.2.2 s h0 h1
    have hs : 0 ≤ s ∧ s < 24 := ⟨h0, by have := hT.2.1; omega⟩
    have eN : ∀ j, σ 210 (11 * s + 5 + j) = (fun i => σ 210 (11 * s + 5 + i)) j := fun _ => rfl
    have hb4 : yrb 429 R := yrb_i (by omega) hb
    have n0 : σ 210 (11 * s + 5) = (fun i => σ 210 (11 * s + 5 + i)) 0 := by dsimp only; rw [Int.add_zero]
    have n1 : σ 210 (11 * s + 6) = (fun i => σ 210 (11 * s + 5 + i)) 1 := by dsimp only; rw [ya1]
    have n2 : σ 210 (11 * s + 7) = (fun i => σ 210 (11 * s + 5 + i)) 2 := by dsimp only; rw [ya2]
    have z9 : (0 : Int) ≤ 0 ∧ (0 : Int) < 9 := by decide
    rcases yWS g with c | c | c
    · rw [zbd, if_pos (by omega)]
      exact s_230s w (by omega) hs rfl (by omega) eN g5 hb4
    · obtain ⟨d, rfl⟩ : ∃ e, d = e + 1 + 1 := ⟨d - 2, by omega⟩
      obtain ⟨c1, c2, c3, c4, c5, c6, c7, c8⟩ := c
      have gp := (hT.2.2 _ c3.1 (by omega)).2
      have gq := (hT.2.2 _ c4.1 (by omega)).2
      have eW : zbd (σ 210) (f + 1) s R = zpb (σ 210 (11 * s)) (σ 210 (11 * s + 5)) (σ 210 (11 * s + 6)) (zbd (σ 210) f (σ 210 (11 * s + 1)) R) (zbd (σ 210) f (σ 210 (11 * s + 2)) R) := by rw [zbd, if_neg (by omega), if_pos (by omega)]
      have qp' := yQ_bd hT f _ R c3.1 (by omega) (by omega) (yrb_i (by omega) hb)
      have qq' := yQ_bd hT f _ R c4.1 (by omega) (by omega) (yrb_i (by omega) hb)
      have qp : yQ2 (max (σ 210 (11 * σ 210 (11 * s + 1) + 4)) (σ 210 (11 * σ 210 (11 * s + 2) + 4))) 6 (zbd (σ 210) f (σ 210 (11 * s + 1)) R) := ⟨yQ_up (by omega) (by omega) (by omega) qp'.1, yQ_up (by omega) (by omega) (by omega) qp'.2⟩
      have qq : yQ2 (max (σ 210 (11 * σ 210 (11 * s + 1) + 4)) (σ 210 (11 * σ 210 (11 * s + 2) + 4))) 6 (zbd (σ 210) f (σ 210 (11 * s + 2)) R) := ⟨yQ_up (by omega) (by omega) (by omega) qq'.1, yQ_up (by omega) (by omega) (by omega) qq'.2⟩
      have hb2 : σ 210 (11 * s) = 11 → max (σ 210 (11 * σ 210 (11 * s + 1) + 4)) (σ 210 (11 * σ 210 (11 * s + 2) + 4)) ≤ 1 := by
        intro e
        rw [if_pos e] at c7 c8
        omega
      obtain ⟨σ1, e1, l1, m1, f1⟩ := ih d (σ 210 (11 * s + 1)) R σ hT (by omega) c3.1 (by omega) (by omega) (yrb_i (by omega) hb)
      have T1 : ∀ j, σ1 210 j = σ 210 j := fun j => f1 _ _ (by decide) (by decide)
      have T1' : σ1 210 = σ 210 := funext T1
      obtain ⟨σ2, e2, l2, m2, f2⟩ := ih d (σ 210 (11 * s + 2)) R σ1 (by rw [T1']; exact hT) (by omega) c4.1 (by omega) (by rw [T1]; omega) (by rw [T1]; exact yrb_i (by omega) hb)
      rw [T1'] at l2 m2
      have T2 : ∀ j, σ2 210 j = σ 210 j := fun j => (f2 _ _ (by decide) (by decide)).trans (T1 j)
      have F2 : ∀ c k, c ≠ 212 → c ≠ 213 → σ2 c k = σ c k := fun c k h g => (f2 c k h g).trans (f1 c k h g)
      have r0 := s_216 w (d + 1) hs (show (0 : Int) ≤ 0 ∧ (0 : Int) < 11 by decide) σ
      have p1 := s_216 w d hs (show (0 : Int) ≤ 1 ∧ (1 : Int) < 11 by decide) σ
      have p2 := s_216 w d hs (show (0 : Int) ≤ 2 ∧ (2 : Int) < 11 by decide) σ1
      have p0 := s_216 w d hs (show (0 : Int) ≤ 0 ∧ (0 : Int) < 11 by decide) σ2
      rw [Int.add_zero] at r0 p0
      rw [T1] at p2
      rw [T2] at p0
      have main : ∃ σ', zcall w (d + 1) 234 (yBa s R) σ = some (0, σ') ∧ yE2 σ σ' (zbd (σ 210) (f + 1) s R) := by
        show ∃ σ', zcall w (d + 1) 234 [zA 13 32 209, zI s, zI 0, zI R.1.1, zI R.1.2, zI R.2.1.1, zI R.2.1.2, zI R.2.2.1, zI R.2.2.2] σ = some (0, σ') ∧ yE2 σ σ' (zbd (σ 210) (f + 1) s R)
        dsimp only [yBa] at e1 e2
        rw [eX12_boundPair, p1, Option.bind_some]
        dsimp only
        rw [e1, Option.bind_some]
        dsimp only
        rw [if_pos z9, if_pos z9, p2, Option.bind_some]
        dsimp only
        rw [e2, Option.bind_some]
        dsimp only
        rw [p0, Option.bind_some, eW, l1, m1]
        dsimp only
        rw [e1] at *
        generalize zbd (σ 210) f (σ 210 (11 * s + 1)) R = A at *
        generalize zbd (σ 210) f (σ 210 (11 * s + 2)) R = B at *
        have fin : ∀ X Y : Int, (X, Y) = zpb (σ 210 (11 * s)) (σ 210 (11 * s + 5)) (σ 210 (11 * s + 6)) A B → ∃ σ', some ((0 : Int), zup (zup σ2 212 0 X) 213 0 Y) = some (0, σ') ∧ yE2 σ σ' (zpb (σ 210 (11 * s)) (σ 210 (11 * s + 5)) (σ 210 (11 * s + 6)) A B) := by
          intro X Y e
          rw [← e]
          exact ⟨_, rfl, by rw [zup_f (by omega), zup_t ⟨rfl, rfl, by decide⟩], by rw [zup_t ⟨rfl, rfl, by decide⟩], fun c k h g => by rw [zup_f (by omega), zup_f (by omega)]; exact F2 c k h g⟩
        have hu : ∀ X : Int, zup σ2 212 0 X 213 0 = σ2 213 0 := fun X => zup_f (by omega)
        have : σ 210 (11 * s) = 8 ∨ σ 210 (11 * s) = 9 ∨ σ 210 (11 * s) = 10 ∨ σ 210 (11 * s) = 11 := by omega
        rcases this with e | e | e | e
        · rw [if_pos e, hX12_boundPair_41, if_pos z9, s_344, Option.bind_some]
          dsimp only
          rw [if_pos z9, if_pos z9, hu, s_344, Option.bind_some]
          dsimp only
          rw [if_pos z9, l2, m2]
          exact fin _ _ (by rw [zpb, if_neg (by omega), zpr, if_pos e, zpr, if_pos e])
        · rw [if_neg (by omega), if_pos e, hX12_boundPair_62, if_pos z9, s_342, Option.bind_some]
          dsimp only
          rw [if_pos z9, if_pos z9, hu, s_342, Option.bind_some]
          dsimp only
          rw [if_pos z9, l2, m2]
          exact fin _ _ (by rw [zpb, if_neg (by omega), zpr, if_neg (by omega), if_pos e, zpr, if_neg (by omega), if_pos e])
        · have u1 : zONE = 16003008000 := rfl
          have b1 := qq.1.2.2
          have b2 := qq.2.2.2
          have s1 : zar 16 (σ2 213 0) 0 = -B.2 := by rw [m2, za_16, zw64_i (by omega)]
          have s2 : zar 16 (σ2 212 0) 0 = -B.1 := by rw [l2, za_16, zw64_i (by omega)]
          rw [if_neg (by omega), if_neg (by omega), if_pos e, hX12_boundPair_83, if_pos z9, if_pos z9, s1, s2, s_342, Option.bind_some]
          dsimp only
          rw [if_pos z9, s_342, Option.bind_some]
          dsimp only
          rw [if_pos z9]
          exact fin _ _ (by rw [zpb, if_pos e])
        · rw [e] at g5
          have v := yV11 g5
          rw [ya0, ya1] at v
          have eb1 := s_221 w (d := d) (σ := σ2) (by omega) hs (T2 _) (T2 _) v.1 v.2 (by decide) ⟨by omega, hb2 e⟩ qp.1 qq.1
          have eb2 := s_221 w (d := d) (σ := zup σ2 212 0 ((A.1 * (σ 210 (11 * s + 5) - σ 210 (11 * s + 6)) + B.1 * σ 210 (11 * s + 6)) / σ 210 (11 * s + 5))) (by omega) hs ((zup_f (by omega)).trans (T2 _)) ((zup_f (by omega)).trans (T2 _)) v.1 v.2 (by decide) ⟨by omega, hb2 e⟩ qp.2 qq.2
          rw [if_neg (by omega), if_neg (by omega), if_neg (by omega), hX12_boundPair_108, if_pos z9, l2, eb1, Option.bind_some]
          dsimp only
          rw [if_pos z9, if_pos z9, hu, m2, eb2, Option.bind_some]
          dsimp only
          rw [if_pos z9]
          exact fin _ _ (by rw [zpb, if_neg (by omega), zpr, if_neg (by omega), if_neg (by omega), if_neg (by omega), zpr, if_neg (by omega), if_neg (by omega), if_neg (by omega)])
      obtain ⟨σ', e, f⟩ := main
      refine ⟨σ', ?_, f⟩
      dsimp only [yBa] at e ⊢
      rw [eX12_bound, r0, Option.bind_some]
      dsimp only
      have : σ 210 (11 * s) = 8 ∨ σ 210 (11 * s) = 9 ∨ σ 210 (11 * s) = 10 ∨ σ 210 (11 * s) = 11 := by omega
      rw [if_neg (by omega), if_neg (by omega), if_neg (by omega), if_neg (by omega), if_neg (by omega)]
      have e256 := hX12_bound_256 w (d + 1) s 0 R.1.1 R.1.2 R.2.1.1 R.2.1.2 R.2.2.1 R.2.2.2 σ
      rw [e] at e256
      rcases this with c | c | c | c
      · rw [if_pos c, e256]; rfl
      · rw [if_neg (by omega), if_pos c, e256]; rfl
      · rw [if_neg (by omega), if_neg (by omega), if_pos c, e256]; rfl
      · rw [if_neg (by omega), if_neg (by omega), if_neg (by omega), if_pos c, e256]; rfl
    · obtain ⟨d, rfl⟩ : ∃ e, d = e + 1 := ⟨d - 1, by omega⟩
      obtain ⟨c1, c2, c3, c4, c5, c6⟩ := c
      have gp := (hT.2.2 _ c3.1 (by omega)).2
      have eW : zbd (σ 210) (f + 1) s R = zcb (σ 210 (11 * s)) (σ 210 (11 * s + 5)) (σ 210 (11 * s + 6)) (zbd (σ 210) f (σ 210 (11 * s + 1)) (zmvr (σ 210 (11 * s)) (σ 210 (11 * s + 5)) (σ 210 (11 * s + 6)) (σ 210 (11 * s + 7)) R)) := by rw [zbd, if_neg (by omega), if_neg (by omega)]
      have r0 := s_216 w d hs (show (0 : Int) ≤ 0 ∧ (0 : Int) < 11 by decide) σ
      rw [Int.add_zero] at r0
      have main : ∃ σ', zcall w d 240 (yBa s R) σ = some (0, σ') ∧ yE2 σ σ' (zbd (σ 210) (f + 1) s R) := by
        by_cases cg : σ 210 (11 * s) = 16 ∨ σ 210 (11 * s) = 17
        · obtain ⟨d, rfl⟩ : ∃ e, d = e + 1 := ⟨d - 1, by omega⟩
          have em : zmvr (σ 210 (11 * s)) (σ 210 (11 * s + 5)) (σ 210 (11 * s + 6)) (σ 210 (11 * s + 7)) R = R := by
            rw [zmvr, if_neg (by omega), if_neg (by omega), if_neg (by omega), if_neg (by omega)]
          rw [em] at eW
          obtain ⟨σ1, e1, l1, m1, f1⟩ := ih d (σ 210 (11 * s + 1)) R σ hT (by omega) c3.1 (by omega) (by omega) (yrb_i (by omega) hb)
          have T1 : ∀ j, σ1 210 j = σ 210 j := fun j => f1 _ _ (by decide) (by decide)
          have qp' := yQ_bd hT f _ R c3.1 (by omega) (by omega) (yrb_i (by omega) hb)
          have nb : (-99 ≤ σ 210 (11 * s + 5) ∧ σ 210 (11 * s + 5) ≤ 99) ∧ 1 ≤ σ 210 (11 * s + 6) ∧ σ 210 (11 * s + 6) ≤ 9 := by
            rw [n0, n1]
            rcases cg with e | e
            · rw [e] at g5; exact yV16 g5
            · rw [e] at g5; exact yV17 g5
          obtain ⟨σ2, e2, l2, m2, f2⟩ := s_242 w (d := d) (by omega) (σ := σ1) hs (T1 _) cg (by rw [T1]; exact nb.1) (by rw [T1]; exact nb.2) l1 m1 (by omega) qp'.1 qp'.2
          rw [T1, T1] at l2 m2
          have p0 := s_216 w d hs (show (0 : Int) ≤ 0 ∧ (0 : Int) < 11 by decide) σ
          have p1 := s_216 w d hs (show (0 : Int) ≤ 1 ∧ (1 : Int) < 11 by decide) σ
          have q0 := s_217 w d hs (show (0 : Int) ≤ 0 ∧ (0 : Int) < 6 by decide) σ
          have q1 := s_217 w d hs (show (0 : Int) ≤ 1 ∧ (1 : Int) < 6 by decide) σ
          rw [Int.add_zero] at p0
          dsimp only [yBa] at e1 ⊢
          rw [eX12_boundChange, p1, Option.bind_some]
          dsimp only
          rw [q0, Option.bind_some]
          dsimp only
          rw [q1, Option.bind_some]
          dsimp only
          rw [p0, Option.bind_some]
          dsimp only
          rw [if_neg (by omega), if_neg (by omega), if_neg (by omega), if_neg (by omega), hX12_boundChange_175, e1, Option.bind_some]
          dsimp only
          rw [e2, Option.bind_some, hX12_boundChange_189, eW]
          exact ⟨σ2, rfl, l2, m2, fun c k h g => (f2 c k h g).trans (f1 c k h g)⟩
        · have m := ymvr_b ⟨c1, c2⟩ g5 (C := 429 - 55 * σ 210 (11 * s + 3)) (by omega) hb
          refine s_240 w (d := d) (by omega) hs rfl (by omega) rfl eN g5 hb4 (fun e he => ?_)
          obtain ⟨σ1, e1, f1⟩ := ih e (σ 210 (11 * s + 1)) _ σ hT (by omega) c3.1 (by omega) (by omega) (yrb_i (by omega) m)
          refine ⟨σ1, e1, ?_⟩
          rw [eW, zcb, if_neg (by omega), if_neg (by omega), n0, n1, n2]
          exact f1
      obtain ⟨σ', e, f⟩ := main
      refine ⟨σ', ?_, f⟩
      have e267 := hX12_bound_267 w d s 0 R.1.1 R.1.2 R.2.1.1 R.2.1.2 R.2.2.1 R.2.2.2 σ
      dsimp only [yBa] at e ⊢
      rw [e] at e267
      rw [eX12_bound, r0, Option.bind_some]
      dsimp only
      rw [if_neg (by omega), if_neg (by omega), if_neg (by omega), if_neg (by omega), if_neg (by omega), if_neg (by omega), if_neg (by omega), if_neg (by omega), if_neg (by omega), e267]
      rfl
end
