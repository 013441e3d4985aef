section
/-! Calls 23, 24, 30, 31, 37, 41: count, placeOf, both, differ, carve, off -/
theorem op_23 (w : zW) (x1 x2 : Int) : zOp zInv w 166 252 [zI x1, zI x2] := by
  intro σ hI
  by_cases h : (0 ≤ x1 ∧ x1 < σ 209 1) ∧ (0 ≤ x2 ∧ x2 ≤ 1)
  · obtain ⟨h1, h2⟩ := h
    have h24 := hI.2.1.1.2.1
    have r2 := (yr_86 w (s := x1) ⟨h1.1, by omega⟩).2
    by_cases c : x2 = 0
    · obtain ⟨σ1, m, P, I1, E, n1, -⟩ := s_198 w (d := 998) (by decide) hI h1.1 h1.2
      have ec := yct_c (n := 4096) (f := zbit σ1 (122 + 2 * x1)) (g := zns (σ 210) x1) P
      have e2 := s_249 w (d := 998) (by decide) (s := x1) (o := 0) (σ := σ1) (n := σ1 209 1) (by decide) I1.2.1.1 h1.1 (by omega)
      rw [E] at e2
      refine yps w (((yct (zns (σ 210) x1) 4096 : Nat) : Int)) (σ2 := yfm (215 + 0) (fun p => zt (zns (σ 210) x1 p = true)) 0 4096 σ1) I1 ((eX11_count w 998 x1 x2 σ).trans ?_) ((eX12_count w 998 x1 x2 σ1).trans ?_) (yfm_alk (by decide))
      · rw [yA1 w hI, Option.bind_some]
        dsimp only
        rw [zt_if, if_pos (by omega)]
        rw [s_200, Option.bind_some]
        dsimp only
        rw [zt_if, if_pos (by omega)]
        rw [if_pos c, m, Option.bind_some]
        dsimp only
        rw [s_57 w (by decide), r2, ec]
        rfl
      · rw [yB1 w I1, Option.bind_some]
        dsimp only
        rw [zt_if, if_pos (by omega)]
        rw [s_213, Option.bind_some]
        dsimp only
        rw [zt_if, if_pos (by omega)]
        rw [if_pos c, e2]
        rfl
    · obtain ⟨σ1, m, P, l, I1, f⟩ := s_37 w (d := 997) (by decide) hI h1.1 h1.2
      have E : σ1 210 = σ 210 := funext fun k => f _ _ (by omega) (by omega) (by omega)
      have n1 : σ1 209 1 = σ 209 1 := f _ _ (by omega) (by omega) (by omega)
      obtain ⟨σ2, k1, k2⟩ := s_251 w hI.2.1.1 h1.1 h1.2 4 (by decide) 998 0 0 0 σ1 (by decide) (by decide) (by decide) (by decide) E
      refine yps w (zlkN (σ 210) x1 4 0 0 0) (σ2 := σ2) I1 ((eX11_count w 998 x1 x2 σ).trans ?_) ((eX12_count w 998 x1 x2 σ1).trans ?_) (zalk_s fun a k _ _ _ _ h => k2 a k (by omega) (by omega))
      · rw [yA1 w hI, Option.bind_some]
        dsimp only
        rw [zt_if, if_pos (by omega)]
        rw [s_200, Option.bind_some]
        dsimp only
        rw [zt_if, if_pos (by omega)]
        rw [if_neg c, eX3_lookedAt, m, Option.bind_some]
        dsimp only
        rw [if_neg (by omega), if_pos (by omega), if_pos (by omega), l]
        rfl
      · rw [yB1 w I1, Option.bind_some]
        dsimp only
        rw [zt_if, if_pos (by omega)]
        rw [s_213, Option.bind_some]
        dsimp only
        rw [zt_if, if_pos (by omega)]
        have k1' : zcall w 998 251 [zA 13 32 209, zI x1, zI 0, zI 0, zI 0, zI 16] σ1 = some (zlkN (σ 210) x1 4 0 0 0, σ2) := k1
        rw [if_neg c, k1']
        rfl
  · refine yop (-62) (zrA σ (-62)) (zrB (zrA σ (-62)) (-62)) ((eX11_count w 998 x1 x2 σ).trans ?_) ((eX12_count w 998 x1 x2 _).trans ?_) (zref0 hI)
    · rw [yA1 w hI, Option.bind_some]
      dsimp only
      rw [zt_if]
      by_cases u0 : 0 ≤ x1 ∧ x1 < σ 209 1
      · rw [if_pos (by omega)]
        rw [s_200, Option.bind_some]
        dsimp only
        rw [zt_if]
        rw [if_neg (fun u => h ⟨u0, (by omega)⟩)]
        exact ybA w σ
      · rw [if_neg (by omega)]; exact ybA w σ
    · rw [yB1' w hI, Option.bind_some]
      dsimp only
      rw [zt_if]
      by_cases u0 : 0 ≤ x1 ∧ x1 < σ 209 1
      · rw [if_pos (by omega)]
        rw [s_213, Option.bind_some]
        dsimp only
        rw [zt_if]
        rw [if_neg (fun u => h ⟨u0, (by omega)⟩)]
        exact ybB w _
      · rw [if_neg (by omega)]; exact ybB w _
theorem ynth_b (g : Int → Bool) : ∀ (m : Nat) (k i : Int), 0 ≤ k → ynth g m k i = -1 ∨ (k ≤ ynth g m k i ∧ ynth g m k i < k + m) := by
  intro m
  induction m with
  | zero => intro k i _; exact Or.inl rfl
  | succ m ih =>
    intro k i hk
    rw [ynth]
    split
    · split
      · exact Or.inr (by omega)
      · have := ih (k + 1) (i - 1) (by omega); omega
    · have := ih (k + 1) i (by omega); omega
theorem ynth_c {f g : Int → Bool} : ∀ (m : Nat) (k i : Int), 0 ≤ k → (∀ p : Int, k ≤ p → p < k + m → f p = g p) → ynth f m k i = ynth g m k i := by
  intro m
  induction m with
  | zero => intro k i _ _; rfl
  | succ m ih =>
    intro k i hk h
    rw [ynth, ynth, h k (by omega) (by omega), ih (k + 1) (i - 1) (by omega) (fun p a b => h p (by omega) (by omega)), ih (k + 1) i (by omega) (fun p a b => h p (by omega) (by omega))]
theorem l_253 (w : zW) {d : Nat} (hd : 20 ≤ d) {s n x2 : Int} {σ : zMem} (hT : zWF (σ 210) n) (h0 : 0 ≤ s) (h1 : s < n) : ∀ (m : Nat) (k c : Int), 0 ≤ k → k + m = 4096 → 0 ≤ c → c ≤ k →
    zden w (d + 1) 253 14 [zA 13 32 209, zI s, zI x2, zI c, zI k] [] σ = if ynth (zns (σ 210) s) m k (x2 - c) = -1 then (zcall w d 214 [zA 13 32 209, zI (-62)] σ).bind fun r2 => some (r2.1, r2.2) else some (ynth (zns (σ 210) s) m k (x2 - c), σ) := by
  intro m
  induction m with
  | zero =>
    intro k c h0 h hc hc2
    rw [hX12_placeOf_14, if_neg (by omega), ynth, if_pos rfl]
  | succ m ih =>
    intro k c h0' h hc hc2
    have e1 : zar 0 k 1 = k + 1 := by rw [za_0, zw32_i (by omega)]
    have e2 : zar 0 c 1 = c + 1 := by rw [za_0, zw32_i (by omega)]
    rw [hX12_placeOf_14, if_pos (by omega), s_248 w hd hT h0 h1 ⟨h0', by omega⟩, Option.bind_some, ynth]
    dsimp only
    rw [zt_if, e1, e2]
    by_cases c1 : zns (σ 210) s k = true
    · rw [if_pos c1, if_pos c1]
      by_cases c2 : c = x2
      · rw [if_pos c2, if_pos (show x2 - c = 0 by omega), if_neg (by omega)]
      · rw [if_neg c2, if_neg (show ¬ x2 - c = 0 by omega), ih (k + 1) (c + 1) (by omega) (by omega) (by omega) (by omega), show x2 - (c + 1) = x2 - c - 1 by omega]
    · rw [if_neg c1, if_neg c1, ih (k + 1) c (by omega) (by omega) (by omega) (by omega)]
theorem op_24 (w : zW) (x1 x2 : Int) (c2 : zc32 x2) : zOp zInv w 167 253 [zI x1, zI x2] := by
  intro σ hI
  by_cases h1 : 0 ≤ x1 ∧ x1 < σ 209 1
  · have h24 := hI.2.1.1.2.1
    have r2 := (yr_86 w (s := x1) ⟨h1.1, by omega⟩).2
    obtain ⟨σ1, m, P, I1, E, n1, -⟩ := s_198 w (d := 998) (by decide) hI h1.1 h1.2
    have ec := ynth_c (f := zbit σ1 (122 + 2 * x1)) (g := zns (σ 210) x1) 4096 0 x2 (by decide) (fun p a b => P p a (by omega))
    have nb := ynth_b (zns (σ 210) x1) 4096 0 x2 (by decide)
    have hA := eX11_placeOf w 998 x1 x2 σ
    rw [yA1 w hI, Option.bind_some] at hA
    dsimp only at hA
    rw [zt_if, if_pos h1, m, Option.bind_some] at hA
    dsimp only at hA
    rw [s_61 w (by decide) _ c2, r2, ec, Option.bind_some] at hA
    dsimp only at hA
    by_cases c : x2 < 0
    · rw [if_pos c, if_pos rfl, ybA] at hA
      refine yop (-62) _ _ hA ((eX12_placeOf w 998 x1 x2 _).trans ?_) (zref0 (n := -62) I1)
      rw [yB1' w I1, Option.bind_some]
      dsimp only
      rw [zt_if, if_pos (by omega), if_pos c, ybB]
    · rw [if_neg c] at hA
      have hB : ∀ σ' : zMem, σ' 210 = σ 210 → zden w (998 + 1) 253 14 [zA 13 32 209, zI x1, zI x2, zI 0, zI 0] [] σ' = if ynth (zns (σ 210) x1) 4096 0 x2 = -1 then (zcall w 998 214 [zA 13 32 209, zI (-62)] σ').bind fun r2 => some (r2.1, r2.2) else some (ynth (zns (σ 210) x1) 4096 0 x2, σ') := by
        intro σ' e
        have := l_253 w (d := 998) (by decide) (s := x1) (x2 := x2) (σ := σ') (n := σ 209 1) (by rw [e]; exact hI.2.1.1) h1.1 h1.2 4096 0 0 (by decide) (by decide) (by decide) (by decide)
        rw [e, Int.sub_zero] at this
        exact this
      by_cases cn : ynth (zns (σ 210) x1) 4096 0 x2 = -1
      · rw [if_pos cn, ybA] at hA
        refine yop (-62) _ _ hA ((eX12_placeOf w 998 x1 x2 _).trans ?_) (zref0 (n := -62) I1)
        rw [yB1' w I1, Option.bind_some]
        dsimp only
        rw [zt_if, if_pos (by omega), if_neg c, hB _ ((funext fun k => zup_f (by omega)).trans E), if_pos cn, ybB]
      · rw [if_neg cn] at hA
        refine yop _ _ _ hA ((eX12_placeOf w 998 x1 x2 _).trans ?_) I1
        rw [yB1 w I1, Option.bind_some]
        dsimp only
        rw [zt_if, if_pos (by omega), if_neg c, hB _ E, if_neg cn]
  · refine yop (-62) (zrA σ (-62)) (zrB (zrA σ (-62)) (-62)) ((eX11_placeOf w 998 x1 x2 σ).trans ?_) ((eX12_placeOf w 998 x1 x2 _).trans ?_) (zref0 hI)
    · rw [yA1 w hI, Option.bind_some]
      dsimp only
      rw [zt_if]
      rw [if_neg h1]
      exact ybA w σ
    · rw [yB1' w hI, Option.bind_some]
      dsimp only
      rw [zt_if]
      rw [if_neg h1]
      exact ybB w _
/-- the places of two shapes, one found after the other -/
theorem s_198b (w : zW) {x1 x2 : Int} {σ : zMem} (hI : zInv σ) (h1 : 0 ≤ x1 ∧ x1 < σ 209 1) (h2 : 0 ≤ x2 ∧ x2 < σ 209 1) :
    ∃ σ1 σ2, zcall w 998 198 [zA 12 16 1, zI x1] σ = some (121 + 2 * x1, σ1) ∧ zcall w 998 198 [zA 12 16 1, zI x2] σ1 = some (121 + 2 * x2, σ2) ∧ zPS σ2 (122 + 2 * x1) (zns (σ 210) x1) ∧ zPS σ2 (122 + 2 * x2) (zns (σ 210) x2) ∧ zInv σ2 ∧ σ2 210 = σ 210 ∧ σ2 209 1 = σ 209 1 := by
  have h24 := hI.2.1.1.2.1
  obtain ⟨σ1, m, P, I1, E, n1, -⟩ := s_198 w (d := 998) (by decide) hI h1.1 h1.2
  obtain ⟨σ2, m', P', I2, E', n1', f'⟩ := s_198 w (d := 998) (by decide) I1 h2.1 (by omega)
  rw [E] at P'
  refine ⟨σ1, σ2, m, m', ?_, P', I2, E'.trans E, n1'.trans n1⟩
  by_cases c : x1 = x2
  · rw [c]; exact P'
  · exact zPS_fr (fun k => f' _ _ (by omega) (by omega) (by omega)) P
theorem l_264 (w : zW) (d : Nat) {g1 g2 : Int → Bool} {v1 v2 v3 : zV} {σ : zMem} (h1 : ∀ p : Int, 0 ≤ p → p < 4096 → σ 215 p = zt (g1 p = true)) (h2 : ∀ p : Int, 0 ≤ p → p < 4096 → σ 216 p = zt (g2 p = true)) : ∀ (m k : Nat) (v4 : zV), k + m = 4096 →
    zden w (d + 1) 264 14 [zA 13 32 209, v1, v2, v3, v4, zI (yct (fun p => g1 p && g2 p) k : Nat), zI (k : Int)] [] σ = some (((yct (fun p => g1 p && g2 p) 4096 : Nat) : Int), σ) := by
  intro m
  induction m with
  | zero =>
    intro k v4 h
    have : k = 4096 := by omega
    subst this
    rw [hX12_fillsBoth_14, if_neg (by omega)]
  | succ m ih =>
    intro k v4 h
    have b := yct_le (fun p => g1 p && g2 p) k
    have e1 : zar 0 (k : Int) 1 = ((k + 1 : Nat) : Int) := by rw [za_0, zw32_i (by omega)]; omega
    have i2 := ih (k + 1) (zlng 0 v4) (by omega)
    rw [yct_s] at i2
    have kr : (0 : Int) ≤ (k : Int) ∧ (k : Int) < 4096 := by omega
    rw [hX12_fillsBoth_14, if_pos kr.2, if_pos kr, h1 _ kr.1 kr.2, zt_if, e1, za_0, za_0]
    by_cases c1 : g1 k = true
    · rw [if_pos c1, if_pos kr, h2 _ kr.1 kr.2, zt_if]
      by_cases c2 : g2 k = true
      · have e : (g1 k && g2 k) = true := by rw [c1, c2]; rfl
        rw [if_pos c2, zw32_i (z := (yct (fun p => g1 p && g2 p) k : Int) + 1) (by omega)]
        rw [if_pos e] at i2
        exact i2
      · have e : ¬ (g1 k && g2 k) = true := by rw [Bool.and_eq_true]; exact fun u => c2 u.2
        rw [if_neg c2, zw32_i (z := (yct (fun p => g1 p && g2 p) k : Int) + 0) (by omega)]
        rw [if_neg e] at i2
        exact i2
    · have e : ¬ (g1 k && g2 k) = true := by rw [Bool.and_eq_true]; exact fun u => c1 u.1
      rw [if_neg c1, zw32_i (z := (yct (fun p => g1 p && g2 p) k : Int) + 0) (by omega)]
      rw [if_neg e] at i2
      exact i2
theorem s_264 (w : zW) {d : Nat} (hd : 22 ≤ d) {p q n : Int} {σ : zMem} (hT : zWF (σ 210) n) (hp : 0 ≤ p ∧ p < n) (hq : 0 ≤ q ∧ q < n) :
    ∃ σ', zcall w d 264 [zA 13 32 209, zI p, zI q] σ = some (((yct (fun k => zns (σ 210) p k && zns (σ 210) q k) 4096 : Nat) : Int), σ') ∧ (∀ k : Int, 0 ≤ k → k < 4096 → σ' 215 k = zt (zns (σ 210) p k = true)) ∧ (∀ k : Int, 0 ≤ k → k < 4096 → σ' 216 k = zt (zns (σ 210) q k = true)) ∧ ∀ a k, a ≠ 215 → a ≠ 216 → σ' a k = σ a k := by
  obtain ⟨d, rfl⟩ : ∃ e, d = e + 1 := ⟨d - 1, by omega⟩
  have e1 := s_249 w (d := d) (by omega) (o := 0) (s := p) (by decide) hT hp.1 hp.2
  generalize hσ1 : yfm (215 + 0) (fun k => zt (zns (σ 210) p k = true)) 0 4096 σ = σ1 at *
  have f1 : ∀ a k, a ≠ 215 → σ1 a k = σ a k := fun a k h => by rw [← hσ1]; exact yfm_f (by omega)
  have E : σ1 210 = σ 210 := funext fun k => f1 _ _ (by decide)
  have e2 := s_249 w (d := d) (by omega) (σ := σ1) (n := n) (o := 1) (s := q) (by decide) (by rw [E]; exact hT) hq.1 hq.2
  rw [E] at e2
  generalize hσ2 : yfm (215 + 1) (fun k => zt (zns (σ 210) q k = true)) 0 4096 σ1 = σ2 at *
  have f2 : ∀ a k, a ≠ 216 → σ2 a k = σ1 a k := fun a k h => by rw [← hσ2]; exact yfm_f (by omega)
  have g1 : ∀ k : Int, 0 ≤ k → k < 4096 → σ2 215 k = zt (zns (σ 210) p k = true) := fun k a b => by rw [f2 _ _ (by decide), ← hσ1]; exact yfm_t (by omega)
  have g2 : ∀ k : Int, 0 ≤ k → k < 4096 → σ2 216 k = zt (zns (σ 210) q k = true) := fun k a b => by rw [← hσ2]; exact yfm_t (by omega)
  refine ⟨σ2, ?_, g1, g2, fun a k u v => (f2 a k v).trans (f1 a k u)⟩
  rw [eX12_fillsBoth, e1, Option.bind_some]
  dsimp only
  rw [e2, Option.bind_some]
  exact l_264 w d g1 g2 4096 0 _ rfl
theorem op_30 (w : zW) (x1 x2 : Int) : zOp zInv w 174 265 [zI x1, zI x2] := by
  intro σ hI
  by_cases h : (0 ≤ x1 ∧ x1 < σ 209 1) ∧ (0 ≤ x2 ∧ x2 < σ 209 1)
  · obtain ⟨h1, h2⟩ := h
    have h24 := hI.2.1.1.2.1
    have r1 := (yr_86 w (s := x1) ⟨h1.1, by omega⟩).2
    have r2 := (yr_86 w (s := x2) ⟨h2.1, by omega⟩).2
    obtain ⟨σ0, σ1, m, m', P, P', I1, E, n1⟩ := s_198b w hI h1 h2
    obtain ⟨σ2, e2, -, -, f2⟩ := s_264 w (d := 998) (by decide) (σ := σ1) (p := x1) (q := x2) I1.2.1.1 (by omega) (by omega)
    rw [E] at e2
    have ec := yct_c (n := 4096) (f := fun p => zbit σ1 (122 + 2 * x1) p && zbit σ1 (122 + 2 * x2) p) (g := fun p => zns (σ 210) x1 p && zns (σ 210) x2 p) (fun p a b => by rw [P p a b, P' p a b])
    refine yps w (((yct (fun k => zns (σ 210) x1 k && zns (σ 210) x2 k) 4096 : Nat) : Int)) (σ2 := σ2) I1 ((eX11_both w 998 x1 x2 σ).trans ?_) ((eX12_both w 998 x1 x2 σ1).trans ?_) (zalk_s fun a k _ _ _ _ h => f2 a k (by omega) (by omega))
    · rw [yA1 w hI, Option.bind_some]
      dsimp only
      rw [zt_if, if_pos (by omega)]
      rw [yA1 w hI, Option.bind_some]
      dsimp only
      rw [zt_if, if_pos (by omega)]
      rw [m, Option.bind_some]
      dsimp only
      rw [m', Option.bind_some]
      dsimp only
      rw [s_58 w (by decide), r1, r2, ec]
      rfl
    · rw [yB1 w I1, Option.bind_some]
      dsimp only
      rw [zt_if, if_pos (by omega)]
      rw [yB1 w I1, Option.bind_some]
      dsimp only
      rw [zt_if, if_pos (by omega)]
      rw [e2]
      rfl
  · refine yop (-62) (zrA σ (-62)) (zrB (zrA σ (-62)) (-62)) ((eX11_both w 998 x1 x2 σ).trans ?_) ((eX12_both w 998 x1 x2 _).trans ?_) (zref0 hI)
    · rw [yA1 w hI, Option.bind_some]
      dsimp only
      rw [zt_if]
      by_cases u0 : 0 ≤ x1 ∧ x1 < σ 209 1
      · rw [if_pos (by omega)]
        rw [yA1 w hI, Option.bind_some]
        dsimp only
        rw [zt_if]
        rw [if_neg (fun u => h ⟨u0, (by omega)⟩)]
        exact ybA w σ
      · rw [if_neg (by omega)]; exact ybA w σ
    · rw [yB1' w hI, Option.bind_some]
      dsimp only
      rw [zt_if]
      by_cases u0 : 0 ≤ x1 ∧ x1 < σ 209 1
      · rw [if_pos (by omega)]
        rw [yB1' w hI, Option.bind_some]
        dsimp only
        rw [zt_if]
        rw [if_neg (fun u => h ⟨u0, (by omega)⟩)]
        exact ybB w _
      · rw [if_neg (by omega)]; exact ybB w _
/-- the first place from k on where two sets differ -/
def ydf (f g : Int → Bool) : Nat → Int → Int
  | 0, _ => -1
  | m + 1, k => if f k = g k then ydf f g m (k + 1) else k
theorem l_175 (w : zW) (d : Nat) (hd : 1 ≤ d) {a b o1 o2 : Int} {f g : Int → Bool} {v0 v1 v2 : zV} {σ : zMem} (r1 : zR w a 0 = o1) (r2 : zR w b 0 = o2) (P : zPS σ o1 f) (P' : zPS σ o2 g) : ∀ (m : Nat) (k : Int), 0 ≤ k → k + m = 4096 →
    zden w (d + 1) 175 22 [v0, v1, v2, zA 6 1 a, zA 6 1 b, zI k] [] σ = some (ydf f g m k, σ) := by
  intro m
  induction m with
  | zero => intro k h0 h; rw [hX11_differ_22, if_neg (by omega)]; rfl
  | succ m ih =>
    intro k h0 h
    have e1 : zar 0 k 1 = k + 1 := by rw [za_0, zw32_i (by omega)]
    rw [hX11_differ_22, if_pos (by omega), s_49 w hd, Option.bind_some]
    dsimp only
    rw [s_49 w hd, Option.bind_some]
    dsimp only
    rw [r1, r2, P k h0 (by omega), P' k h0 (by omega), e1, ih (k + 1) (by omega) (by omega), ydf]
    have hk : 0 ≤ k ∧ k < 4096 := ⟨h0, by omega⟩
    cases c1 : f k <;> cases c2 : g k
    · rw [if_pos rfl, if_pos rfl]
    · rw [if_neg (by rw [zt_n (fun u => Bool.false_ne_true u.2), zt_p ⟨hk, rfl⟩]; decide), if_neg (by decide)]
    · rw [if_neg (by rw [zt_n (P := (0 ≤ k ∧ k < 4096) ∧ false = true) (fun u => Bool.false_ne_true u.2), zt_p ⟨hk, rfl⟩]; decide), if_neg (by decide)]
    · rw [if_pos rfl, if_pos rfl]
theorem l_266 (w : zW) (d : Nat) (hd : 20 ≤ d) {p q n : Int} {σ : zMem} (hT : zWF (σ 210) n) (hp : 0 ≤ p ∧ p < n) (hq : 0 ≤ q ∧ q < n) : ∀ (m : Nat) (k : Int), 0 ≤ k → k + m = 4096 →
    zden w (d + 1) 266 14 [zA 13 32 209, zI p, zI q, zI k] [] σ = some (ydf (zns (σ 210) p) (zns (σ 210) q) m k, σ) := by
  intro m
  induction m with
  | zero => intro k h0 h; rw [hX12_differ_14, if_neg (by omega)]; rfl
  | succ m ih =>
    intro k h0 h
    have e1 : zar 0 k 1 = k + 1 := by rw [za_0, zw32_i (by omega)]
    rw [hX12_differ_14, if_pos (by omega), s_248 w hd hT hp.1 hp.2 (by omega), Option.bind_some]
    dsimp only
    rw [s_248 w hd hT hq.1 hq.2 (by omega), Option.bind_some]
    dsimp only
    rw [e1, ih (k + 1) (by omega) (by omega), ydf]
    cases c1 : zns (σ 210) p k <;> cases c2 : zns (σ 210) q k
    · rw [if_pos rfl, if_pos rfl]
    · rw [if_neg (by decide), if_neg (by decide)]
    · rw [if_neg (by decide), if_neg (by decide)]
    · rw [if_pos rfl, if_pos rfl]
theorem op_31 (w : zW) (x1 x2 : Int) : zOp zInv w 175 266 [zI x1, zI x2] := by
  intro σ hI
  by_cases h : (0 ≤ x1 ∧ x1 < σ 209 1) ∧ (0 ≤ x2 ∧ x2 < σ 209 1)
  · obtain ⟨h1, h2⟩ := h
    have h24 := hI.2.1.1.2.1
    have r1 := (yr_86 w (s := x1) ⟨h1.1, by omega⟩).2
    have r2 := (yr_86 w (s := x2) ⟨h2.1, by omega⟩).2
    obtain ⟨σ0, σ1, m, m', P, P', I1, E, n1⟩ := s_198b w hI h1 h2
    have e2 := l_266 w 998 (by decide) (σ := σ1) (p := x1) (q := x2) I1.2.1.1 (by omega) (by omega) 4096 0 (by decide) (by decide)
    rw [E] at e2
    refine yps w (ydf (zns (σ 210) x1) (zns (σ 210) x2) 4096 0) (σ2 := σ1) I1 ((eX11_differ w 998 x1 x2 σ).trans ?_) ((eX12_differ w 998 x1 x2 σ1).trans ?_) (zalk_r _)
    · rw [yA1 w hI, Option.bind_some]
      dsimp only
      rw [zt_if, if_pos (by omega)]
      rw [yA1 w hI, Option.bind_some]
      dsimp only
      rw [zt_if, if_pos (by omega)]
      rw [m, Option.bind_some]
      dsimp only
      rw [m', Option.bind_some]
      dsimp only
      exact l_175 w 998 (by decide) r1 r2 P P' 4096 0 (by decide) (by decide)
    · rw [yB1 w I1, Option.bind_some]
      dsimp only
      rw [zt_if, if_pos (by omega)]
      rw [yB1 w I1, Option.bind_some]
      dsimp only
      rw [zt_if, if_pos (by omega)]
      exact e2
  · refine yop (-62) (zrA σ (-62)) (zrB (zrA σ (-62)) (-62)) ((eX11_differ w 998 x1 x2 σ).trans ?_) ((eX12_differ w 998 x1 x2 _).trans ?_) (zref0 hI)
    · rw [yA1 w hI, Option.bind_some]
      dsimp only
      rw [zt_if]
      by_cases u0 : 0 ≤ x1 ∧ x1 < σ 209 1
      · rw [if_pos (by omega)]
        rw [yA1 w hI, Option.bind_some]
        dsimp only
        rw [zt_if]
        rw [if_neg (fun u => h ⟨u0, (by omega)⟩)]
        exact ybA w σ
      · rw [if_neg (by omega)]; exact ybA w σ
    · rw [yB1' w hI, Option.bind_some]
      dsimp only
      rw [zt_if]
      by_cases u0 : 0 ≤ x1 ∧ x1 < σ 209 1
      · rw [if_pos (by omega)]
        rw [yB1' w hI, Option.bind_some]
        dsimp only
        rw [zt_if]
        rw [if_neg (fun u => h ⟨u0, (by omega)⟩)]
        exact ybB w _
      · rw [if_neg (by omega)]; exact ybB w _
end
