section
/-! Calls 10 to 17: ball, box, half, pair, blend, shift, change, grown -/
theorem op_10 (w : zW) (x1 x2 x3 x4 : Int) : zOp zInv w 150 284 [zI x1, zI x2, zI x3, zI x4] := by
  intro σ hI
  obtain ⟨r, σ1, e1, f⟩ := yMk w (k := 3) (p := -1) (q := -1) (μ := zup (zup (zup (zup σ 206 0 x1) 206 1 x2) 206 2 x3) 206 3 x4) hI (fun a t u => by rw [zup_f (by omega), zup_f (by omega), zup_f (by omega), zup_f (by omega)]) (Or.inl (by decide))
  obtain ⟨σ2, e2, i2⟩ := f (zup (zup (zup (zup σ1 221 0 x1) 221 1 x2) 221 2 x3) 221 3 x4) (fun a t u => by rw [zup_f (by omega), zup_f (by omega), zup_f (by omega), zup_f (by omega)]) (fun t t0 t1 => by
    have t1 : t < 4 := t1
    have : t = 0 ∨ t = 1 ∨ t = 2 ∨ t = 3 := by omega
    rcases this with rfl | rfl | rfl | rfl
    · rw [zup_f (by omega), zup_f (by omega), zup_f (by omega), zup_t ⟨rfl, rfl, by decide⟩, zup_f (by omega), zup_f (by omega), zup_f (by omega), zup_t ⟨rfl, rfl, by decide⟩]
    · rw [zup_f (by omega), zup_f (by omega), zup_t ⟨rfl, rfl, by decide⟩, zup_f (by omega), zup_f (by omega), zup_t ⟨rfl, rfl, by decide⟩]
    · rw [zup_f (by omega), zup_t ⟨rfl, rfl, by decide⟩, zup_f (by omega), zup_t ⟨rfl, rfl, by decide⟩]
    · rw [zup_t ⟨rfl, rfl, by decide⟩, zup_t ⟨rfl, rfl, by decide⟩])
  refine ⟨r, σ1, σ2, (eX11_ball w 998 x1 x2 x3 x4 σ).trans ?_, (eX12_ball w 998 x1 x2 x3 x4 σ1).trans ?_, i2⟩
  · rw [eX11_putNumbers, Option.bind_some]
    dsimp only
    rw [e1]; rfl
  · rw [eX12_tells, Option.bind_some]
    dsimp only
    rw [e2]; rfl
theorem op_11 (w : zW) (x1 x2 x3 x4 x5 x6 : Int) : zOp zInv w 151 285 [zI x1, zI x2, zI x3, zI x4, zI x5, zI x6] := by
  intro σ hI
  obtain ⟨r, σ1, e1, f⟩ := yMk w (k := 4) (p := -1) (q := -1) (μ := zup (zup (zup (zup (zup (zup σ 206 0 x1) 206 1 x2) 206 2 x3) 206 3 x4) 206 4 x5) 206 5 x6) hI (fun a t u => by rw [zup_f (by omega), zup_f (by omega), zup_f (by omega), zup_f (by omega), zup_f (by omega), zup_f (by omega)]) (Or.inl (by decide))
  obtain ⟨σ2, e2, i2⟩ := f (zup (zup (zup (zup (zup (zup σ1 221 0 x1) 221 1 x2) 221 2 x3) 221 3 x4) 221 4 x5) 221 5 x6) (fun a t u => by rw [zup_f (by omega), zup_f (by omega), zup_f (by omega), zup_f (by omega), zup_f (by omega), zup_f (by omega)]) (fun t t0 t1 => by
    have t1 : t < 6 := t1
    have : t = 0 ∨ t = 1 ∨ t = 2 ∨ t = 3 ∨ t = 4 ∨ t = 5 := by omega
    rcases this with rfl | rfl | rfl | rfl | rfl | rfl
    · rw [zup_f (by omega), zup_f (by omega), zup_f (by omega), zup_f (by omega), zup_f (by omega), zup_t ⟨rfl, rfl, by decide⟩, zup_f (by omega), zup_f (by omega), zup_f (by omega), zup_f (by omega), zup_f (by omega), zup_t ⟨rfl, rfl, by decide⟩]
    · rw [zup_f (by omega), zup_f (by omega), zup_f (by omega), zup_f (by omega), zup_t ⟨rfl, rfl, by decide⟩, zup_f (by omega), zup_f (by omega), zup_f (by omega), zup_f (by omega), zup_t ⟨rfl, rfl, by decide⟩]
    · rw [zup_f (by omega), zup_f (by omega), zup_f (by omega), zup_t ⟨rfl, rfl, by decide⟩, zup_f (by omega), zup_f (by omega), zup_f (by omega), zup_t ⟨rfl, rfl, by decide⟩]
    · rw [zup_f (by omega), zup_f (by omega), zup_t ⟨rfl, rfl, by decide⟩, zup_f (by omega), zup_f (by omega), zup_t ⟨rfl, rfl, by decide⟩]
    · rw [zup_f (by omega), zup_t ⟨rfl, rfl, by decide⟩, zup_f (by omega), zup_t ⟨rfl, rfl, by decide⟩]
    · rw [zup_t ⟨rfl, rfl, by decide⟩, zup_t ⟨rfl, rfl, by decide⟩])
  refine ⟨r, σ1, σ2, (eX11_box w 998 x1 x2 x3 x4 x5 x6 σ).trans ?_, (eX12_box w 998 x1 x2 x3 x4 x5 x6 σ1).trans ?_, i2⟩
  · rw [eX11_putNumbers, Option.bind_some]
    dsimp only
    rw [e1]; rfl
  · rw [eX12_tells, Option.bind_some]
    dsimp only
    rw [e2]; rfl
theorem op_12 (w : zW) (x1 x2 x3 x4 : Int) : zOp zInv w 152 286 [zI x1, zI x2, zI x3, zI x4] := by
  intro σ hI
  obtain ⟨r, σ1, e1, f⟩ := yMk w (k := 5) (p := -1) (q := -1) (μ := zup (zup (zup (zup σ 206 0 x1) 206 1 x2) 206 2 x3) 206 3 x4) hI (fun a t u => by rw [zup_f (by omega), zup_f (by omega), zup_f (by omega), zup_f (by omega)]) (Or.inl (by decide))
  obtain ⟨σ2, e2, i2⟩ := f (zup (zup (zup (zup σ1 221 0 x1) 221 1 x2) 221 2 x3) 221 3 x4) (fun a t u => by rw [zup_f (by omega), zup_f (by omega), zup_f (by omega), zup_f (by omega)]) (fun t t0 t1 => by
    have t1 : t < 4 := t1
    have : t = 0 ∨ t = 1 ∨ t = 2 ∨ t = 3 := by omega
    rcases this with rfl | rfl | rfl | rfl
    · rw [zup_f (by omega), zup_f (by omega), zup_f (by omega), zup_t ⟨rfl, rfl, by decide⟩, zup_f (by omega), zup_f (by omega), zup_f (by omega), zup_t ⟨rfl, rfl, by decide⟩]
    · rw [zup_f (by omega), zup_f (by omega), zup_t ⟨rfl, rfl, by decide⟩, zup_f (by omega), zup_f (by omega), zup_t ⟨rfl, rfl, by decide⟩]
    · rw [zup_f (by omega), zup_t ⟨rfl, rfl, by decide⟩, zup_f (by omega), zup_t ⟨rfl, rfl, by decide⟩]
    · rw [zup_t ⟨rfl, rfl, by decide⟩, zup_t ⟨rfl, rfl, by decide⟩])
  refine ⟨r, σ1, σ2, (eX11_half w 998 x1 x2 x3 x4 σ).trans ?_, (eX12_half w 998 x1 x2 x3 x4 σ1).trans ?_, i2⟩
  · rw [eX11_putNumbers, Option.bind_some]
    dsimp only
    rw [e1]; rfl
  · rw [eX12_tells, Option.bind_some]
    dsimp only
    rw [e2]; rfl
theorem op_13 (w : zW) (x1 x2 x3 : Int) : zOp zInv w 153 287 [zI x1, zI x2, zI x3] := by
  intro σ hI
  by_cases h1 : 8 ≤ x1 ∧ x1 ≤ 10
  · by_cases h3 : 0 ≤ x3 ∧ x3 < σ 209 1
    · have hz : zno x1 = 0 := by
        have : x1 = 8 ∨ x1 = 9 ∨ x1 = 10 := by omega
        rcases this with rfl | rfl | rfl <;> rfl
      obtain ⟨r, σ1, e1, f⟩ := yMk w (k := x1) (p := x2) (q := x3) (μ := σ) hI (fun a t u => rfl) (by omega)
      obtain ⟨σ2, e2, i2⟩ := f σ1 (fun a t u => rfl) (fun t t0 t1 => by omega)
      refine ⟨r, σ1, σ2, (eX11_pair w 998 x1 x2 x3 σ).trans ?_, (eX12_pair w 998 x1 x2 x3 σ1).trans ?_, i2⟩
      · rw [s_200, Option.bind_some]
        dsimp only
        rw [zt_if, if_pos h1, yA1 w hI, Option.bind_some]
        dsimp only
        rw [zt_if, if_pos h3, e1]; rfl
      · rw [s_213, Option.bind_some]
        dsimp only
        rw [zt_if, if_pos h1, e2]; rfl
    · have n1 : zrA σ (-62) 209 1 = σ 209 1 := zup_f (by omega)
      have t1 : zrA σ (-62) 210 = σ 210 := funext fun t => zup_f (by omega)
      refine yop (-62) (zrA σ (-62)) (zrB (zrA σ (-62)) (-62)) ((eX11_pair w 998 x1 x2 x3 σ).trans ?_) ((eX12_pair w 998 x1 x2 x3 _).trans ?_) (zref0 hI)
      · rw [s_200, Option.bind_some]
        dsimp only
        rw [zt_if, if_pos h1, yA1 w hI, Option.bind_some]
        dsimp only
        rw [zt_if, if_neg h3]
        exact ybA w σ
      · rw [s_213, Option.bind_some]
        dsimp only
        rw [zt_if, if_pos h1, (s_282 w (n := σ 209 1) (k := x1) (p := x2) (q := x3) (ν := zrA σ (-62)) (by rw [t1]; exact hI.2.1.1) n1 (by omega)).1 (fun u => by have := u.1; unfold ypq at this; omega)]
        rfl
  · refine yop (-62) (zrA σ (-62)) (zrB (zrA σ (-62)) (-62)) ((eX11_pair w 998 x1 x2 x3 σ).trans ?_) ((eX12_pair w 998 x1 x2 x3 _).trans ?_) (zref0 hI)
    · rw [s_200, Option.bind_some]
      dsimp only
      rw [zt_if, if_neg h1]
      exact ybA w σ
    · rw [s_213, Option.bind_some]
      dsimp only
      rw [zt_if, if_neg h1]
      exact ybB w _
theorem op_14 (w : zW) (x1 x2 x3 x4 : Int) : zOp zInv w 154 288 [zI x1, zI x2, zI x3, zI x4] := by
  intro σ hI
  by_cases h3 : 0 ≤ x2 ∧ x2 < σ 209 1
  · obtain ⟨r, σ1, e1, f⟩ := yMk w (k := 11) (p := x1) (q := x2) (μ := zup (zup (zup σ 206 0 x3) 206 1 x4) 206 2 0) hI (fun a t u => by rw [zup_f (by omega), zup_f (by omega), zup_f (by omega)]) (by omega)
    obtain ⟨σ2, e2, i2⟩ := f (zup (zup (zup (zup σ1 221 0 x3) 221 1 x4) 221 2 0) 221 3 0) (fun a t u => by rw [zup_f (by omega), zup_f (by omega), zup_f (by omega), zup_f (by omega)]) (fun t t0 t1 => by
      have t1 : t < 2 := t1
      have : t = 0 ∨ t = 1 := by omega
      rcases this with rfl | rfl
      · rw [zup_f (by omega), zup_f (by omega), zup_f (by omega), zup_t ⟨rfl, rfl, by decide⟩, zup_f (by omega), zup_f (by omega), zup_t ⟨rfl, rfl, by decide⟩]
      · rw [zup_f (by omega), zup_f (by omega), zup_t ⟨rfl, rfl, by decide⟩, zup_f (by omega), zup_t ⟨rfl, rfl, by decide⟩])
    refine ⟨r, σ1, σ2, (eX11_blend w 998 x1 x2 x3 x4 σ).trans ?_, (eX12_blend w 998 x1 x2 x3 x4 σ1).trans ?_, i2⟩
    · rw [yA1 w hI, Option.bind_some]
      dsimp only
      rw [zt_if, if_pos h3, eX11_putNumbers, Option.bind_some]
      dsimp only
      rw [e1]; rfl
    · rw [eX12_tells, Option.bind_some]
      dsimp only
      rw [e2]; rfl
  · obtain ⟨ν, hν⟩ : ∃ ν, ν = zup (zup (zup (zup (zrA σ (-62)) 221 0 x3) 221 1 x4) 221 2 0) 221 3 0 := ⟨_, rfl⟩
    have g : ∀ a t, a ≠ 221 → ν a t = zrA σ (-62) a t := fun a t u => by rw [hν, zup_f (by omega), zup_f (by omega), zup_f (by omega), zup_f (by omega)]
    have n1 : ν 209 1 = σ 209 1 := (g _ _ (by decide)).trans (zup_f (by omega))
    have t1 : ν 210 = σ 210 := funext fun t => (g _ _ (by decide)).trans (zup_f (by omega))
    refine yop (-62) (zrA σ (-62)) (zrB ν (-62)) ((eX11_blend w 998 x1 x2 x3 x4 σ).trans ?_) ((eX12_blend w 998 x1 x2 x3 x4 _).trans ?_) (zref hI (zalk_r _) (zalk_n fun a t _ u => g a t u))
    · rw [yA1 w hI, Option.bind_some]
      dsimp only
      rw [zt_if, if_neg h3]
      exact ybA w σ
    · rw [eX12_tells, Option.bind_some]
      dsimp only
      rw [← hν, (s_282 w (n := σ 209 1) (k := 11) (p := x1) (q := x2) (ν := ν) (by rw [t1]; exact hI.2.1.1) n1 (by omega)).1 (fun u => by have := u.1; unfold ypq at this; omega)]
      rfl
theorem op_15 (w : zW) (x1 x2 x3 x4 : Int) : zOp zInv w 155 289 [zI x1, zI x2, zI x3, zI x4] := by
  intro σ hI
  obtain ⟨r, σ1, e1, f⟩ := yMk w (k := 12) (p := x1) (q := -1) (μ := zup (zup (zup σ 206 0 x2) 206 1 x3) 206 2 x4) hI (fun a t u => by rw [zup_f (by omega), zup_f (by omega), zup_f (by omega)]) (by omega)
  obtain ⟨σ2, e2, i2⟩ := f (zup (zup (zup (zup σ1 221 0 x2) 221 1 x3) 221 2 x4) 221 3 0) (fun a t u => by rw [zup_f (by omega), zup_f (by omega), zup_f (by omega), zup_f (by omega)]) (fun t t0 t1 => by
    have t1 : t < 3 := t1
    have : t = 0 ∨ t = 1 ∨ t = 2 := by omega
    rcases this with rfl | rfl | rfl
    · rw [zup_f (by omega), zup_f (by omega), zup_f (by omega), zup_t ⟨rfl, rfl, by decide⟩, zup_f (by omega), zup_f (by omega), zup_t ⟨rfl, rfl, by decide⟩]
    · rw [zup_f (by omega), zup_f (by omega), zup_t ⟨rfl, rfl, by decide⟩, zup_f (by omega), zup_t ⟨rfl, rfl, by decide⟩]
    · rw [zup_f (by omega), zup_t ⟨rfl, rfl, by decide⟩, zup_t ⟨rfl, rfl, by decide⟩])
  refine ⟨r, σ1, σ2, (eX11_shift w 998 x1 x2 x3 x4 σ).trans ?_, (eX12_shift w 998 x1 x2 x3 x4 σ1).trans ?_, i2⟩
  · rw [eX11_putNumbers, Option.bind_some]
    dsimp only
    rw [e1]; rfl
  · rw [eX12_tells, Option.bind_some]
    dsimp only
    rw [e2]; rfl
theorem op_16 (w : zW) (x1 x2 x3 x4 : Int) : zOp zInv w 156 290 [zI x1, zI x2, zI x3, zI x4] := by
  intro σ hI
  by_cases h1 : 13 ≤ x1 ∧ x1 ≤ 15
  · have hz : zno x1 = 2 := by
      have : x1 = 13 ∨ x1 = 14 ∨ x1 = 15 := by omega
      rcases this with rfl | rfl | rfl <;> rfl
    obtain ⟨r, σ1, e1, f⟩ := yMk w (k := x1) (p := x2) (q := -1) (μ := zup (zup (zup σ 206 0 x3) 206 1 x4) 206 2 0) hI (fun a t u => by rw [zup_f (by omega), zup_f (by omega), zup_f (by omega)]) (by omega)
    obtain ⟨σ2, e2, i2⟩ := f (zup (zup (zup (zup σ1 221 0 x3) 221 1 x4) 221 2 0) 221 3 0) (fun a t u => by rw [zup_f (by omega), zup_f (by omega), zup_f (by omega), zup_f (by omega)]) (fun t t0 t1 => by
      rw [hz] at t1
      have : t = 0 ∨ t = 1 := by omega
      rcases this with rfl | rfl
      · rw [zup_f (by omega), zup_f (by omega), zup_f (by omega), zup_t ⟨rfl, rfl, by decide⟩, zup_f (by omega), zup_f (by omega), zup_t ⟨rfl, rfl, by decide⟩]
      · rw [zup_f (by omega), zup_f (by omega), zup_t ⟨rfl, rfl, by decide⟩, zup_f (by omega), zup_t ⟨rfl, rfl, by decide⟩])
    refine ⟨r, σ1, σ2, (eX11_change w 998 x1 x2 x3 x4 σ).trans ?_, (eX12_change w 998 x1 x2 x3 x4 σ1).trans ?_, i2⟩
    · rw [s_200, Option.bind_some]
      dsimp only
      rw [zt_if, if_pos h1, eX11_putNumbers, Option.bind_some]
      dsimp only
      rw [e1]; rfl
    · rw [eX12_tells, Option.bind_some]
      dsimp only
      rw [s_213, Option.bind_some]
      dsimp only
      rw [zt_if, if_pos h1, e2]; rfl
  · obtain ⟨ν, hν⟩ : ∃ ν, ν = zup (zup (zup (zup (zrA σ (-62)) 221 0 x3) 221 1 x4) 221 2 0) 221 3 0 := ⟨_, rfl⟩
    have g : ∀ a t, a ≠ 221 → ν a t = zrA σ (-62) a t := fun a t u => by rw [hν, zup_f (by omega), zup_f (by omega), zup_f (by omega), zup_f (by omega)]
    refine yop (-62) (zrA σ (-62)) (zrB ν (-62)) ((eX11_change w 998 x1 x2 x3 x4 σ).trans ?_) ((eX12_change w 998 x1 x2 x3 x4 _).trans ?_) (zref hI (zalk_r _) (zalk_n fun a t _ u => g a t u))
    · rw [s_200, Option.bind_some]
      dsimp only
      rw [zt_if, if_neg h1]
      exact ybA w σ
    · rw [eX12_tells, Option.bind_some]
      dsimp only
      rw [← hν, s_213, Option.bind_some]
      dsimp only
      rw [zt_if, if_neg h1]
      exact ybB w _
theorem op_17 (w : zW) (x1 x2 x3 x4 : Int) : zOp zInv w 157 291 [zI x1, zI x2, zI x3, zI x4] := by
  intro σ hI
  by_cases h1 : 16 ≤ x1 ∧ x1 ≤ 17
  · have hz : zno x1 = 2 := by
      have : x1 = 16 ∨ x1 = 17 := by omega
      rcases this with rfl | rfl <;> rfl
    obtain ⟨r, σ1, e1, f⟩ := yMk w (k := x1) (p := x2) (q := -1) (μ := zup (zup (zup σ 206 0 x3) 206 1 x4) 206 2 0) hI (fun a t u => by rw [zup_f (by omega), zup_f (by omega), zup_f (by omega)]) (by omega)
    obtain ⟨σ2, e2, i2⟩ := f (zup (zup (zup (zup σ1 221 0 x3) 221 1 x4) 221 2 0) 221 3 0) (fun a t u => by rw [zup_f (by omega), zup_f (by omega), zup_f (by omega), zup_f (by omega)]) (fun t t0 t1 => by
      rw [hz] at t1
      have : t = 0 ∨ t = 1 := by omega
      rcases this with rfl | rfl
      · rw [zup_f (by omega), zup_f (by omega), zup_f (by omega), zup_t ⟨rfl, rfl, by decide⟩, zup_f (by omega), zup_f (by omega), zup_t ⟨rfl, rfl, by decide⟩]
      · rw [zup_f (by omega), zup_f (by omega), zup_t ⟨rfl, rfl, by decide⟩, zup_f (by omega), zup_t ⟨rfl, rfl, by decide⟩])
    refine ⟨r, σ1, σ2, (eX11_grown w 998 x1 x2 x3 x4 σ).trans ?_, (eX12_grown w 998 x1 x2 x3 x4 σ1).trans ?_, i2⟩
    · rw [s_200, Option.bind_some]
      dsimp only
      rw [zt_if, if_pos h1, eX11_putNumbers, Option.bind_some]
      dsimp only
      rw [e1]; rfl
    · rw [eX12_tells, Option.bind_some]
      dsimp only
      rw [s_213, Option.bind_some]
      dsimp only
      rw [zt_if, if_pos h1, e2]; rfl
  · obtain ⟨ν, hν⟩ : ∃ ν, ν = zup (zup (zup (zup (zrA σ (-62)) 221 0 x3) 221 1 x4) 221 2 0) 221 3 0 := ⟨_, rfl⟩
    have g : ∀ a t, a ≠ 221 → ν a t = zrA σ (-62) a t := fun a t u => by rw [hν, zup_f (by omega), zup_f (by omega), zup_f (by omega), zup_f (by omega)]
    refine yop (-62) (zrA σ (-62)) (zrB ν (-62)) ((eX11_grown w 998 x1 x2 x3 x4 σ).trans ?_) ((eX12_grown w 998 x1 x2 x3 x4 _).trans ?_) (zref hI (zalk_r _) (zalk_n fun a t _ u => g a t u))
    · rw [s_200, Option.bind_some]
      dsimp only
      rw [zt_if, if_neg h1]
      exact ybA w σ
    · rw [eX12_tells, Option.bind_some]
      dsimp only
      rw [← hν, s_213, Option.bind_some]
      dsimp only
      rw [zt_if, if_neg h1]
      exact ybB w _
end
