section
/-! Call 19: shapeOf -/
theorem s_294 (w : zW) {n : Int} : ∀ (f : Nat) (d : Nat) (s : Int) (σ : zMem), zWF (σ 210) n → f + 1 ≤ d → 0 ≤ s → s < n → σ 210 (11 * s + 3) < f → zcall w d 294 [zA 13 32 209, zI s] σ = some (zsolN (σ 210) f s, σ) := by
  intro f
  induction f with
  | zero =>
    intro d s σ hT hd h0 h1 hf
    have := (hT.2.2 s h0 h1).2.1
    omega
  | succ f ih =>
    intro d s σ hT hd h0 h1 hf
    obtain ⟨d, rfl⟩ : ∃ e, d = e + 1 := ⟨d - 1, by omega⟩
    have g := hT.2.2 s h0 h1
    have hs : 0 ≤ s ∧ s < 24 := ⟨h0, by have := hT.2.1; omega⟩
    have r0 := s_216 w d hs (show (0 : Int) ≤ 0 ∧ (0 : Int) < 11 by decide) σ
    have r1 := s_216 w d hs (show (0 : Int) ≤ 1 ∧ (1 : Int) < 11 by decide) σ
    have r2 := s_216 w d hs (show (0 : Int) ≤ 2 ∧ (2 : Int) < 11 by decide) σ
    rw [Int.add_zero] at r0
    rw [eX12_solids, r0, Option.bind_some]
    dsimp only
    have e0 : zsolN (σ 210) (f + 1) s = if σ 210 (11 * s) ≤ 5 then 1 else zsolN (σ 210) f (σ 210 (11 * s + 1)) + (if σ 210 (11 * s + 2) < 0 then 0 else zsolN (σ 210) f (σ 210 (11 * s + 2))) := rfl
    have f6 : f ≤ 6 ∨ 6 < f := by omega
    have bd : ∀ r : Int, 0 ≤ r → r < s → σ 210 (11 * r + 3) < f → 0 ≤ zsolN (σ 210) f r ∧ zsolN (σ 210) f r ≤ 128 := by
      intro r r0 r1 r2
      have z := (hT.2.2 r r0 (by omega)).2
      have := zsolN_f hT f 7 r r0 (by omega) r2 (by omega)
      have b := zsolN_b (T := σ 210) 7 r
      have p7 : (2 : Int) ^ 7 = 128 := rfl
      omega
    rw [e0]
    rcases yWS g with c | c | c
    · rw [if_neg (by omega), if_pos (by omega)]
    · obtain ⟨c1, c2, c3, c4, c5, c6, -⟩ := c
      have b1 := bd _ c3.1 c3.2 (by omega)
      have b2 := bd _ c4.1 c4.2 (by omega)
      rw [if_pos (by omega), r1, Option.bind_some]
      dsimp only
      rw [ih d _ σ hT (by omega) c3.1 (by omega) (by omega), Option.bind_some]
      dsimp only
      rw [r2, Option.bind_some]
      dsimp only
      rw [if_neg (by omega), r2, Option.bind_some]
      dsimp only
      rw [ih d _ σ hT (by omega) c4.1 (by omega) (by omega), Option.bind_some]
      dsimp only
      rw [za_0, zw32_i (by omega), if_neg (by omega), if_neg (by omega)]
    · obtain ⟨c1, c2, c3, c4, c5, c6⟩ := c
      have b1 := bd _ c3.1 c3.2 (by omega)
      rw [if_pos (by omega), r1, Option.bind_some]
      dsimp only
      rw [ih d _ σ hT (by omega) c3.1 (by omega) (by omega), Option.bind_some]
      dsimp only
      rw [r2, Option.bind_some]
      dsimp only
      rw [if_pos (by omega), za_0, zw32_i (by omega), if_neg (by omega), if_pos (by omega)]
theorem op_19 (w : zW) (x1 x2 : Int) : zOp zInv w 162 295 [zI x1, zI x2] := by
  intro σ hI
  have hT := hI.2.1.1
  have hTb := hI.2.1.2
  by_cases h : (0 ≤ x1 ∧ x1 < σ 209 1) ∧ 0 ≤ x2 ∧ x2 ≤ 4
  · obtain ⟨h1, h2⟩ := h
    have t := yTs_i hTb hT.2.1 h1.1 h1.2
    have hs : 0 ≤ x1 ∧ x1 < 24 := by have := hT.2.1; omega
    have g := (hT.2.2 x1 h1.1 h1.2).2
    obtain ⟨a3, -, a4⟩ := s_115 w 998 hT hTb (Or.inr h1)
    rw [if_neg (by omega)] at a3 a4
    have a5 := s_294 w (n := σ 209 1) 7 998 x1 σ hT (by decide) h1.1 h1.2 (by omega)
    have hA := eX11_shapeOf w 998 x1 x2 σ
    rw [yA1 w hI, Option.bind_some] at hA
    dsimp only at hA
    rw [zt_if, if_pos h1] at hA
    have hB := eX12_shapeOf w 998 x1 x2 σ
    rw [yB1 w hI, Option.bind_some] at hB
    dsimp only at hB
    rw [zt_if, if_pos h1, s_213, Option.bind_some] at hB
    dsimp only at hB
    rw [zt_if, if_pos h2] at hB
    have : x2 = 0 ∨ x2 = 1 ∨ x2 = 2 ∨ x2 = 3 ∨ x2 = 4 := by omega
    rcases this with rfl | rfl | rfl | rfl | rfl
    · rw [if_pos rfl, s_112 w _ t] at hA
      rw [if_pos (by decide), s_216 w 998 hs (by decide), Int.add_zero] at hB
      exact yask hI hA hB
    · rw [if_neg (by decide), if_pos rfl, s_113 w _ t] at hA
      rw [if_pos (by decide), s_216 w 998 hs (by decide)] at hB
      exact yask hI hA hB
    · rw [if_neg (by decide), if_neg (by decide), if_pos rfl, s_114 w _ t] at hA
      rw [if_pos (by decide), s_216 w 998 hs (by decide)] at hB
      exact yask hI hA hB
    · rw [if_neg (by decide), if_neg (by decide), if_neg (by decide), if_pos rfl, a3] at hA
      rw [if_pos (by decide), s_216 w 998 hs (by decide)] at hB
      exact yask hI hA hB
    · rw [if_neg (by decide), if_neg (by decide), if_neg (by decide), if_neg (by decide), if_pos rfl, a4] at hA
      rw [if_neg (by decide), a5] at hB
      exact yask hI hA hB
  · refine yop (-62) (zrA σ (-62)) (zrB (zrA σ (-62)) (-62)) ((eX11_shapeOf w 998 x1 x2 σ).trans ?_) ((eX12_shapeOf w 998 x1 x2 _).trans ?_) (zref0 hI)
    · rw [yA1 w hI, Option.bind_some]
      dsimp only
      rw [zt_if]
      by_cases u1 : 0 ≤ x1 ∧ x1 < σ 209 1
      · rw [if_pos u1, if_neg (by omega), if_neg (by omega), if_neg (by omega), if_neg (by omega), if_neg (by omega)]
        exact ybA w σ
      · rw [if_neg u1]; exact ybA w σ
    · rw [yB1' w hI, Option.bind_some]
      dsimp only
      rw [zt_if]
      by_cases u1 : 0 ≤ x1 ∧ x1 < σ 209 1
      · rw [if_pos u1, s_213, Option.bind_some]
        dsimp only
        rw [zt_if, if_neg (fun u => h ⟨u1, u⟩)]
        exact ybB w _
      · rw [if_neg u1]; exact ybB w _
end
