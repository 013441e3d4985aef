/-! Call 2: copy -/
set_option maxHeartbeats 4000000 in
theorem op_2 (w : zW) (x1 x2 x3 x4 x5 : Int) (c3 : zc32 x3) (c4 : zc32 x4) : zOp zInv w 140 311 [zI x1, zI x2, zI x3, zI x4, zI x5] := by
  intro σ hI
  by_cases h1 : 0 ≤ x1 ∧ x1 < 8
  · by_cases h2 : 0 ≤ x2 ∧ x2 < 8
    · have hs1 := hI.2.2.2.2.2.1 x1 h1.1 h1.2
      have hs2 := hI.2.2.2.2.2.1 x2 h2.1 h2.2
      have ea : σ 75 x1 = σ 226 x1 := hs1.1
      have eb : σ 75 x2 = σ 226 x2 := hs2.1
      by_cases b1 : 10 ≤ σ 226 x1 ∨ 10 ≤ σ 226 x2 ∨ (0 ≤ σ 226 x1 ∧ 0 ≤ σ 226 x2 ∧ σ 226 x1 ≠ σ 226 x2)
      · have g : ∀ a k, a ≠ 208 → zrA σ (-63) a k = σ a k := fun a k q => zup_f (Or.inl q)
        refine yref hI (n := -63) ((eX11_copy w 998 x1 x2 x3 x4 x5 σ).trans ?_) ((eX12_copy w 998 x1 x2 x3 x4 x5 _).trans ?_)
        · simp only [s_201, s_81 w (show 1 ≤ 998 by decide), Option.bind_some, zt_if, s_194 w 998 (n := -63) (by decide), if_pos h1, if_pos h2, ea, eb]
          rcases b1 with q | q | q
          · rw [if_neg (by omega)]
          · by_cases u : σ 226 x1 < 10
            · rw [if_pos u, if_neg (by omega)]
            · rw [if_neg u]
          · by_cases u : σ 226 x1 < 10
            · by_cases u2 : σ 226 x2 < 10
              · rw [if_pos u, if_pos u2, if_neg (by omega), if_neg (by omega), if_neg q.2.2]
              · rw [if_pos u, if_neg u2]
            · rw [if_neg u]
        · simp only [s_307 w (show 1 ≤ 998 by decide), Option.bind_some, zt_if, s_214 w 998 (n := -63) (by decide), if_pos h1, if_pos h2, g 226 _ (by decide)]
          rcases b1 with q | q | q
          · rw [if_pos (by omega)]
          · by_cases u : 4 < σ 226 x1
            · rw [if_pos u]
            · rw [if_neg u, if_pos (by omega)]
          · by_cases u : 4 < σ 226 x1
            · rw [if_pos u]
            · rw [if_neg u]
              by_cases u2 : 4 < σ 226 x2
              · rw [if_pos u2]
              · rw [if_neg u2, if_neg (by omega), if_neg (by omega), if_neg q.2.2]
      · have b1' : σ 226 x1 < 10 ∧ σ 226 x2 < 10 ∧ (0 ≤ σ 226 x1 → 0 ≤ σ 226 x2 → σ 226 x1 = σ 226 x2) := ⟨Int.not_le.mp fun q => b1 (Or.inl q), Int.not_le.mp fun q => b1 (Or.inr (Or.inl q)), fun p q => Classical.byContradiction fun r => b1 (Or.inr (Or.inr ⟨p, q, r⟩))⟩
        clear b1
        obtain ⟨b1a, b1b, b1c⟩ := b1'
        by_cases b2 : σ 226 x1 = -1 ∨ σ 226 x2 = -1
        · have g : ∀ a k, a ≠ 208 → zrA σ (-64) a k = σ a k := fun a k q => zup_f (Or.inl q)
          refine yref hI (n := -64) ((eX11_copy w 998 x1 x2 x3 x4 x5 σ).trans ?_) ((eX12_copy w 998 x1 x2 x3 x4 x5 _).trans ?_)
          · simp only [s_201, s_81 w (show 1 ≤ 998 by decide), Option.bind_some, zt_if, s_194 w 998 (n := -64) (by decide), if_pos h1, if_pos h2, ea, eb]
            by_cases u : σ 226 x1 = -1
            · rw [if_pos (by omega), if_pos (by omega), if_pos u, if_pos u]
            · rw [if_pos (by omega), if_pos (by omega), if_neg u, if_pos (by omega), if_neg u, if_pos (by omega)]
          · simp only [s_307 w (show 1 ≤ 998 by decide), Option.bind_some, zt_if, s_214 w 998 (n := -64) (by decide), if_pos h1, if_pos h2, g 226 _ (by decide)]
            by_cases u : σ 226 x1 = -1
            · rw [if_neg (by omega), if_neg (by omega), if_pos (by omega), if_pos (by omega)]
            · rw [if_neg (by omega), if_neg (by omega), if_neg (by omega), if_pos (by omega), if_neg (by omega), if_pos (by omega)]
        · have r1 : 0 ≤ σ 226 x1 ∧ σ 226 x1 ≤ 4 ∧ σ 76 x1 = σ 227 x1 ∧ 0 ≤ σ 227 x1 ∧ σ 227 x1 ≤ 40 := by omega
          have r2 : 0 ≤ σ 226 x2 ∧ σ 226 x2 ≤ 4 ∧ σ 76 x2 = σ 227 x2 ∧ 0 ≤ σ 227 x2 ∧ σ 227 x2 ≤ 40 := by omega
          have r3 : σ 226 x1 = σ 226 x2 := b1c (by omega) (by omega)
          by_cases b3 : (0 ≤ x3 ∧ 0 ≤ x5 ∧ x5 ≤ σ 227 x1 ∧ x3 ≤ σ 227 x1 - x5) ∧ (0 ≤ x4 ∧ x5 ≤ σ 227 x2 ∧ x4 ≤ σ 227 x2 - x5)
          · refine yop x5 (zfc σ 77 (40 * x1 + x3) 77 (40 * x2 + x4) x5) (zfc (zfc σ 77 (40 * x1 + x3) 77 (40 * x2 + x4) x5) 228 (40 * x1 + x3) 228 (40 * x2 + x4) x5) ((eX11_copy w 998 x1 x2 x3 x4 x5 σ).trans ?_) ((eX12_copy w 998 x1 x2 x3 x4 x5 _).trans ?_) ?_
            · simp only [s_201, s_81 w (show 1 ≤ 998 by decide), s_82 w (show 1 ≤ 998 by decide), Option.bind_some, zt_if, if_pos h1, if_pos h2, ea, eb]
              rw [if_pos (by omega), if_pos (by omega), if_neg (by omega), if_neg (by omega), if_pos r3, if_neg (by omega), if_neg (by omega), s_206 w 998 c3 (by omega), Option.bind_some]
              dsimp only
              rw [zt_if, if_pos (by omega), s_206 w 998 c4 (by omega), Option.bind_some]
              dsimp only
              rw [zt_if, if_pos (by omega), s_91 w (by decide) h1 h2 (by omega) (by omega) (by omega), Option.bind_some]
            · have g : ∀ a k, a ≠ 77 → zfc σ 77 (40 * x1 + x3) 77 (40 * x2 + x4) x5 a k = σ a k := fun a k q => zfc_f (by omega)
              have e1 : zar 1 (σ 227 x1) x3 = σ 227 x1 - x3 := by rw [za_1, zw32_i (by omega)]
              have e2 : zar 1 (σ 227 x2) x4 = σ 227 x2 - x4 := by rw [za_1, zw32_i (by omega)]
              simp only [s_307 w (show 1 ≤ 998 by decide), Option.bind_some, zt_if, if_pos h1, if_pos h2, g 226 _ (by decide), g 227 _ (by decide), e1, e2]
              rw [if_neg (by omega), if_neg (by omega), if_neg (by omega), if_neg (by omega), if_pos r3, if_neg (by omega), if_neg (by omega), if_neg (by omega), if_neg (by omega), if_neg (by omega), if_neg (by omega), if_neg (by omega), if_neg (by omega), if_neg (by omega)]
              refine l_311 w 998 h1 h2 (by omega) (by omega) x5.toNat 0 _ _ (by omega) (by omega) ?_ (by omega)
              split
              · funext a k; rw [zfc_f (a' := a) (k' := k) (sp := 40 * x1 + x3 + (x5 - 0)) (by omega)]
              · funext a k; rw [zfc_f (a' := a) (k' := k) (n := 0) (by omega)]
            · refine zInv_S hI (fun a k q r => ?_) fun s a b => ?_
              · rw [zfc_f (by omega), zfc_f (by omega)]
              · have hs := hI.2.2.2.2.2.1 s a b
                have g : ∀ a k, a ≠ 77 → a ≠ 228 → zfc (zfc σ 77 (40 * x1 + x3) 77 (40 * x2 + x4) x5) 228 (40 * x1 + x3) 228 (40 * x2 + x4) x5 a k = σ a k := fun a k q r => by rw [zfc_f (by omega), zfc_f (by omega)]
                rw [g 75 s (by decide) (by decide), g 226 s (by decide) (by decide), g 76 s (by decide) (by decide), g 227 s (by decide) (by decide), g 209 1 (by decide) (by decide)]
                refine ⟨hs.1, hs.2.1, fun i c f => ?_⟩
                rw [zfc_f (a' := 77) (by omega)]
                by_cases e : 40 * x2 + x4 ≤ 40 * s + i ∧ 40 * s + i < 40 * x2 + x4 + x5
                · rw [zfc_t (a' := 77) (by omega), zfc_t (a' := 228) (by omega), zfc_f (a' := 228) (by omega)]
                  have h := hs1.2.2 (x3 + (40 * s + i - (40 * x2 + x4))) (by omega) (by omega)
                  rw [show 40 * x1 + (x3 + (40 * s + i - (40 * x2 + x4))) = 40 * x1 + x3 + (40 * s + i - (40 * x2 + x4)) by omega] at h
                  exact h
                · rw [zfc_f (a' := 77) (by omega), zfc_f (a' := 228) (by omega), zfc_f (a' := 228) (by omega)]
                  exact hs.2.2 i c f
          · have g : ∀ a k, a ≠ 208 → zrA σ (-62) a k = σ a k := fun a k q => zup_f (Or.inl q)
            refine yref hI (n := -62) ((eX11_copy w 998 x1 x2 x3 x4 x5 σ).trans ?_) ((eX12_copy w 998 x1 x2 x3 x4 x5 _).trans ?_)
            · simp only [s_201, s_81 w (show 1 ≤ 998 by decide), s_82 w (show 1 ≤ 998 by decide), Option.bind_some, zt_if, if_pos h1, if_pos h2, ea, eb, s_194 w 998 (n := -62) (by decide)]
              rw [if_pos (by omega), if_pos (by omega), if_neg (by omega), if_neg (by omega), if_pos r3, if_neg (by omega), if_neg (by omega), s_206 w 998 c3 (by omega), Option.bind_some]
              dsimp only
              rw [zt_if]
              by_cases u : 0 ≤ x3 ∧ 0 ≤ x5 ∧ x5 ≤ σ 76 x1 ∧ x3 ≤ σ 76 x1 - x5
              · rw [if_pos u, s_206 w 998 c4 (by omega), Option.bind_some]
                dsimp only
                rw [zt_if, if_neg (by omega)]
              · rw [if_neg u]
            · simp only [s_307 w (show 1 ≤ 998 by decide), Option.bind_some, zt_if, if_pos h1, if_pos h2, g 226 _ (by decide), g 227 _ (by decide), s_214 w 998 (n := -62) (by decide)]
              rw [if_neg (by omega), if_neg (by omega), if_neg (by omega), if_neg (by omega), if_pos r3, if_neg (by omega), if_neg (by omega)]
              by_cases u1 : x3 < 0
              · rw [if_pos u1]
              rw [if_neg u1]
              by_cases u2 : x4 < 0
              · rw [if_pos u2]
              rw [if_neg u2]
              by_cases u3 : x5 < 0
              · rw [if_pos u3]
              rw [if_neg u3]
              by_cases u4 : σ 227 x1 < x3
              · rw [if_pos u4]
              rw [if_neg u4]
              by_cases u5 : σ 227 x2 < x4
              · rw [if_pos u5]
              have e1 : zar 1 (σ 227 x1) x3 = σ 227 x1 - x3 := by rw [za_1, zw32_i (by omega)]
              have e2 : zar 1 (σ 227 x2) x4 = σ 227 x2 - x4 := by rw [za_1, zw32_i (by omega)]
              rw [if_neg u5, e1, e2]
              by_cases u6 : σ 227 x1 - x3 < x5
              · rw [if_pos u6]
              rw [if_neg u6, if_pos (by omega)]
    · refine yref hI (n := -62) ((eX11_copy w 998 x1 x2 x3 x4 x5 σ).trans ?_) ((eX12_copy w 998 x1 x2 x3 x4 x5 _).trans ?_)
      · simp only [s_201, Option.bind_some, zt_if, s_194 w 998 (n := -62) (by decide)]
        rw [if_pos h1, if_neg h2]
      · simp only [s_307 w (show 1 ≤ 998 by decide), Option.bind_some, zt_if, s_214 w 998 (n := -62) (by decide)]
        rw [if_pos h1, if_neg h2]
  · refine yref hI (n := -62) ((eX11_copy w 998 x1 x2 x3 x4 x5 σ).trans ?_) ((eX12_copy w 998 x1 x2 x3 x4 x5 _).trans ?_)
    · simp only [s_201, Option.bind_some, zt_if, s_194 w 998 (n := -62) (by decide)]
      rw [if_neg h1]
    · simp only [s_307 w (show 1 ≤ 998 by decide), Option.bind_some, zt_if, s_214 w 998 (n := -62) (by decide)]
      rw [if_neg h1]
