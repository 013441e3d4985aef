/-! Calls 7, 8, 43, 18: feed, wipe, seed, drop -/
theorem zInv_P {σ σ' : zMem} (t : zInv σ) (h : ∀ a k, ¬ zsP a k → σ' a k = σ a k) (hs : zI_P σ') : zInv σ' := by
  obtain ⟨t0, t1, t2, t3, t4, t5, t6, t7⟩ := t
  exact ⟨(h _ _ (by unfold zsP; omega)).trans t0, zI_T_fr (fun a k q => h _ _ (by unfold zsT at q; unfold zsP; omega)) t1, zCa_fr t1.1.2.1 (fun a k q => h _ _ (by unfold zsC at q; unfold zsP; omega)) t2,
    zI_K_fr (fun a k q => h _ _ (by unfold zsK at q; unfold zsP; omega)) t3, zI_B_fr (fun a k q => h _ _ (by unfold zsB at q; unfold zsP; omega)) t4, zI_S_fr (fun a k q => h _ _ (by unfold zsS at q; unfold zsP; omega)) t5,
    zI_R_fr (fun a k q => h _ _ (by unfold zsR at q; unfold zsP; omega)) t6, hs⟩
theorem zInv_B {σ σ' : zMem} (t : zInv σ) (h : ∀ a k, ¬ zsB a k → σ' a k = σ a k) (hs : zI_B σ') : zInv σ' := by
  obtain ⟨t0, t1, t2, t3, t4, t5, t6, t7⟩ := t
  exact ⟨(h _ _ (by unfold zsB; omega)).trans t0, zI_T_fr (fun a k q => h _ _ (by unfold zsT at q; unfold zsB; omega)) t1, zCa_fr t1.1.2.1 (fun a k q => h _ _ (by unfold zsC at q; unfold zsB; omega)) t2,
    zI_K_fr (fun a k q => h _ _ (by unfold zsK at q; unfold zsB; omega)) t3, hs, zI_S_fr (fun a k q => h _ _ (by unfold zsS at q; unfold zsB; omega)) t5,
    zI_R_fr (fun a k q => h _ _ (by unfold zsR at q; unfold zsB; omega)) t6, zI_P_fr (fun a k q => h _ _ (by unfold zsP at q; unfold zsB; omega)) t7⟩
theorem op_7 (w : zW) (x1 : Int) : zOp zInv w 147 296 [zI x1] := by
  intro σ hI
  obtain ⟨p1, p2, p3, p4⟩ := hI.2.2.2.2.2.2.2
  by_cases h1 : 0 ≤ x1 ∧ x1 ≤ 255
  · by_cases h2 : σ 209 11 = 250
    · refine yref hI (n := -66) ((eX11_feed w 998 x1 σ).trans ?_) ((eX12_feed w 998 x1 _).trans ?_)
      · simp only [s_200, eX6_isFull, Option.bind_some, zt_if, s_194 w 998 (n := -66) (by decide)]
        rw [if_pos h1, if_neg (by omega)]
        rfl
      · have g : ∀ a k, a ≠ 208 → zrA σ (-66) a k = σ a k := fun a k q => zup_f (Or.inl q)
        simp only [s_213, Option.bind_some, zt_if, s_214 w 998 (n := -66) (by decide), g 209 11 (by decide)]
        rw [if_pos h1, if_pos h2]
    · have e : zar 0 (σ 209 11) 1 = σ 209 11 + 1 := by rw [za_0, zw32_i (by omega)]
      have g2 : zup σ 79 (σ 209 11) x1 78 1 = σ 209 11 := (zup_f (by omega)).trans p1
      refine yop (σ 209 11 + 1) (zup (zup σ 79 (σ 209 11) x1) 78 1 (σ 209 11 + 1)) (zup (zup (zup (zup σ 79 (σ 209 11) x1) 78 1 (σ 209 11 + 1)) 223 (σ 209 11) x1) 209 11 (σ 209 11 + 1)) ((eX11_feed w 998 x1 σ).trans ?_) ((eX12_feed w 998 x1 _).trans ?_) ?_
      · simp only [s_200, eX6_isFull, Option.bind_some, zt_if, p1]
        rw [if_pos h1, if_pos (by omega), Option.bind_some]
        dsimp only
        rw [if_pos rfl, eX6_put, p1, if_neg (by omega), if_pos (by omega), if_pos (by omega), Option.bind_some, g2, e]
        simp only [eX6_size, Option.bind_some]
        rw [zup_t (by omega)]
      · have g : ∀ a k, a ≠ 79 → a ≠ 78 → zup (zup σ 79 (σ 209 11) x1) 78 1 (σ 209 11 + 1) a k = σ a k := fun a k q r => by rw [zup_f (by omega), zup_f (by omega)]
        have g3 : ∀ σ'' : zMem, zup σ'' 223 (σ 209 11) x1 209 11 = σ'' 209 11 := fun σ'' => zup_f (by omega)
        simp only [s_213, Option.bind_some, zt_if, g 209 11 (by decide) (by decide), g3, e]
        rw [if_pos h1, if_neg h2, if_pos (by omega), zup_t (by omega)]
      · refine zInv_P hI (fun a k q => ?_) ⟨?_, ?_, ?_, ?_⟩
        · unfold zsP at q
          rw [zup_f (by omega), zup_f (by omega), zup_f (by omega), zup_f (by omega)]
        · rw [zup_f (by omega), zup_f (by omega), zup_t (by omega), zup_t (by omega)]
        · rw [zup_t (by omega)]; omega
        · rw [zup_t (by omega)]; omega
        · intro i a b
          rw [zup_t (by omega)] at b
          by_cases c : i = σ 209 11
          · have k1 : ∀ v, zup (zup (zup (zup σ 79 (σ 209 11) x1) 78 1 (σ 209 11 + 1)) 223 (σ 209 11) x1) 209 11 v 79 i = x1 := fun v => by rw [zup_f (by omega), zup_f (by omega), zup_f (by omega), zup_t (by omega)]
            have k2 : ∀ v, zup (zup (zup (zup σ 79 (σ 209 11) x1) 78 1 (σ 209 11 + 1)) 223 (σ 209 11) x1) 209 11 v 223 i = x1 := fun v => by rw [zup_f (by omega), zup_t (by omega)]
            rw [k1, k2]
            omega
          · have k1 : ∀ a v, a ≠ 209 → a ≠ 78 → zup (zup (zup (zup σ 79 (σ 209 11) x1) 78 1 (σ 209 11 + 1)) 223 (σ 209 11) x1) 209 11 v a i = σ a i := fun a v _ _ => by rw [zup_f (by omega), zup_f (by omega), zup_f (by omega), zup_f (by omega)]
            rw [k1 79 _ (by decide) (by decide), k1 223 _ (by decide) (by decide)]
            exact p4 i a (by omega)
  · refine yref hI (n := -62) ((eX11_feed w 998 x1 σ).trans ?_) ((eX12_feed w 998 x1 _).trans ?_)
    · simp only [s_200, Option.bind_some, zt_if, s_194 w 998 (n := -62) (by decide)]
      rw [if_neg h1]
    · simp only [s_213, Option.bind_some, zt_if, s_214 w 998 (n := -62) (by decide)]
      rw [if_neg h1]
theorem op_8 (w : zW) : zOp zInv w 148 297 [] := by
  intro σ hI
  obtain ⟨p1, p2, p3, p4⟩ := hI.2.2.2.2.2.2.2
  refine yop (σ 209 11) (zup σ 78 1 0) (zup (zup σ 78 1 0) 209 11 0) ((eX11_wipe w 998 σ).trans ?_) ((eX12_wipe w 999 _).trans ?_) ?_
  · simp only [eX6_size, eX6_empty, Option.bind_some, p1]
  · rw [zup_f (by omega)]
  · refine zInv_P hI (fun a k q => ?_) ⟨?_, ?_, ?_, ?_⟩
    · unfold zsP at q
      rw [zup_f (by omega), zup_f (by omega)]
    · rw [zup_f (by omega), zup_t (by omega), zup_t (by omega)]
    · rw [zup_t (by omega)]; omega
    · rw [zup_t (by omega)]; omega
    · intro i a b
      rw [zup_t (by omega)] at b
      omega
theorem op_43 (w : zW) (x1 : Int) : zOp zInv w 190 332 [zI x1] := by
  intro σ hI
  have h5 : σ 18 5 = σ 209 26 := hI.2.2.2.2.1.1.2.2.1
  refine yop (σ 209 26) (zup σ 18 5 x1) (zup (zup σ 18 5 x1) 209 26 x1) ((eX11_seed w 998 x1 σ).trans ?_) ((eX12_seed w 999 x1 _).trans ?_) ?_
  · simp only [eX0_drawnFrom, eX0_drawFrom, Option.bind_some, h5]
  · rw [zup_f (by omega)]
  · have g : ∀ a k, ¬ (a = 18 ∧ k = 5) → ¬ (a = 209 ∧ k = 26) → zup (zup σ 18 5 x1) 209 26 x1 a k = σ a k := fun a k q r => by rw [zup_f (by omega), zup_f (by omega)]
    have gf : ∀ a, a ≠ 18 → a ≠ 209 → zup (zup σ 18 5 x1) 209 26 x1 a = σ a := fun a q r => funext fun k => g a k (by omega) (by omega)
    refine zInv_B hI (fun a k q => ?_) ⟨?_, ?_⟩
    · unfold zsB at q
      exact g a k (by omega) (by omega)
    · obtain ⟨⟨v1, v2, v3, v4, v5, v6, v7, v8, v9, v10⟩, v11⟩ := hI.2.2.2.2.1
      have k2 := g 18 2 (by omega) (by omega)
      rw [gf 229 (by decide) (by decide), gf 230 (by decide) (by decide), g 209 24 (by omega) (by omega), g 209 25 (by omega) (by omega), zup_t (a' := 209) (by omega)]
      refine ⟨by rw [g 18 3 (by omega) (by omega)]; exact v1, by rw [g 18 4 (by omega) (by omega)]; exact v2, by rw [zup_f (by omega), zup_t (by omega)], by omega, by omega, v6, v7, zPS_fr (fun k => g _ k (by omega) (by omega)) v8, v9, fun i q r => ?_⟩
      rw [k2]
      have := (v11 i q (by omega)).1
      dsimp only
      rw [gf (σ 230 i) (by omega) (by omega)]
      exact ⟨zPS_fr (fun k => g _ k (by omega) (by omega)) (v10 i q r).1, (v10 i q r).2⟩
    · unfold zPm
      rw [gf 230 (by decide) (by decide)]
      exact hI.2.2.2.2.1.2
