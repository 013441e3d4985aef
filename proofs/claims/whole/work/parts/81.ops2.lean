/-! Calls 1, 3, 4, 5: set, element, holds, show -/
theorem s_81 (w : zW) {d : Nat} (hd : 1 ≤ d) (x : Int) (σ : zMem) : zcall w d 81 [zA 8 3 74, zI x] σ = some (if 0 ≤ x ∧ x < 8 then σ 75 x else -1, σ) := by
  obtain ⟨d, rfl⟩ : ∃ e, d = e + 1 := ⟨d - 1, by omega⟩
  rw [eX7_heldBy]
  simp only [s_201, Option.bind_some, zt_if]
  by_cases h : 0 ≤ x ∧ x < 8
  · rw [if_pos h, if_pos h, if_pos h]
  · rw [if_neg h, if_neg h]
theorem s_82 (w : zW) {d : Nat} (hd : 1 ≤ d) (x : Int) (σ : zMem) : zcall w d 82 [zA 8 3 74, zI x] σ = some (if 0 ≤ x ∧ x < 8 then σ 76 x else 0, σ) := by
  obtain ⟨d, rfl⟩ : ∃ e, d = e + 1 := ⟨d - 1, by omega⟩
  rw [eX7_sizeOf]
  simp only [s_201, Option.bind_some, zt_if]
  by_cases h : 0 ≤ x ∧ x < 8
  · rw [if_pos h, if_pos h, if_pos h]
  · rw [if_neg h, if_neg h]
/-- what the class says of a shelf that is to hold a row -/
theorem s_195 (w : zW) {d : Nat} (hd : 2 ≤ d) (x : Int) (σ : zMem) : zcall w d 195 [zA 12 16 1, zI x] σ =
    some (if 0 ≤ x ∧ x < 8 then (if σ 75 x < 10 then (if σ 75 x = -1 then -64 else 0) else -63) else -62, σ) := by
  obtain ⟨d, rfl⟩ : ∃ e, d = e + 1 := ⟨d - 1, by omega⟩
  rw [eX11_rowRefusal]
  simp only [s_201, s_81 w (show 1 ≤ d by omega), Option.bind_some, zt_if]
  by_cases h : 0 ≤ x ∧ x < 8
  · rw [if_pos h, if_pos h, if_pos h]
    (repeat' split) <;> rfl
  · rw [if_neg h, if_neg h]
theorem s_87 (w : zW) {d : Nat} (hd : 1 ≤ d) (x i : Int) (σ : zMem) : zcall w d 87 [zA 8 3 74, zI x, zI i] σ = some (zt ((0 ≤ x ∧ x < 8) ∧ (0 ≤ i ∧ i ≤ 39) ∧ i < σ 76 x), σ) := by
  obtain ⟨d, rfl⟩ : ∃ e, d = e + 1 := ⟨d - 1, by omega⟩
  rw [eX7_isElement]
  simp only [s_201, s_200, Option.bind_some, zt_if]
  rw [zt]
  (repeat' split) <;> first | rfl | omega
theorem s_88 (w : zW) {d : Nat} (hd : 2 ≤ d) (x i : Int) (σ : zMem) : zcall w d 88 [zA 8 3 74, zI x, zI i] σ = some (if (0 ≤ x ∧ x < 8) ∧ (0 ≤ i ∧ i ≤ 39) ∧ i < σ 76 x then σ 77 (40 * x + i) else 0, σ) := by
  obtain ⟨d, rfl⟩ : ∃ e, d = e + 1 := ⟨d - 1, by omega⟩
  rw [eX7_elementOf]
  simp only [s_87 w (show 1 ≤ d by omega), Option.bind_some, zt_if]
  by_cases h : (0 ≤ x ∧ x < 8) ∧ (0 ≤ i ∧ i ≤ 39) ∧ i < σ 76 x
  · have e : zar 0 (zar 2 x 40) i = 40 * x + i := by rw [za_2, za_0, zw32_i (z := x * 40) (by omega), zw32_i (by omega)]; omega
    rw [if_pos h, if_pos h, e, if_pos (by omega)]
  · rw [if_neg h, if_neg h]
def ynar (o v : Int) : Int := if o = 0 then zw8 (zw32 v) else if o = 1 then zw16 (zw32 v) else if o = 2 then zw32 v else if o = 3 then v else if v = 0 then 0 else 1
theorem s_90 (w : zW) (d : Nat) {o : Int} (ho : 0 ≤ o ∧ o ≤ 4) (v : Int) (σ : zMem) : zcall w d 90 [zI o, zJ v] σ = some (ynar o v, σ) := by
  rw [eX7_narrowed, ynar]
  simp only [za_23, za_24, za_25, zcmp_eq]
  (repeat' split) <;> first | rfl | omega
theorem s_309 (w : zW) (d : Nat) {o : Int} (ho : 0 ≤ o ∧ o ≤ 4) (v : Int) (σ : zMem) : zcall w d 309 [zI o, zJ v] σ = some (ynar o v, σ) := by
  rw [eX12_lowest_, ynar]
  simp only [za_23, za_24, za_25, zcmp_eq]
  (repeat' split) <;> first | rfl | omega
theorem s_195n (w : zW) {d : Nat} (hd : 2 ≤ d) {x : Int} {σ : zMem} (h : 0 ≤ x ∧ x < 8) (q : σ 75 x = -1) : zcall w d 195 [zA 12 16 1, zI x] σ = some (-64, σ) := by
  rw [s_195 w hd, if_pos h, if_pos (by omega), if_pos q]
theorem s_195r (w : zW) {d : Nat} (hd : 2 ≤ d) {x : Int} {σ : zMem} (h : 0 ≤ x ∧ x < 8) (q : 0 ≤ σ 75 x ∧ σ 75 x < 10) : zcall w d 195 [zA 12 16 1, zI x] σ = some (0, σ) := by
  rw [s_195 w hd, if_pos h, if_pos (by omega), if_neg (by omega)]
theorem s_195o (w : zW) {d : Nat} (hd : 2 ≤ d) {x : Int} {σ : zMem} (h : 0 ≤ x ∧ x < 8) (q : 10 ≤ σ 75 x) : zcall w d 195 [zA 12 16 1, zI x] σ = some (-63, σ) := by
  rw [s_195 w hd, if_pos h, if_neg (by omega)]
theorem s_195b (w : zW) {d : Nat} (hd : 2 ≤ d) {x : Int} {σ : zMem} (h : ¬ (0 ≤ x ∧ x < 8)) : zcall w d 195 [zA 12 16 1, zI x] σ = some (-62, σ) := by
  rw [s_195 w hd, if_neg h]
theorem zI_S_el {σ σ' : zMem} {x i v : Int} (t : zI_S σ) (hx : 0 ≤ x ∧ x < 8) (hi : 0 ≤ i ∧ i < 40) (h : ∀ a k, a ≠ 77 → a ≠ 228 → σ' a k = σ a k)
    (h1 : ∀ k, σ' 77 k = if k = 40 * x + i then v else σ 77 k) (h2 : ∀ k, σ' 228 k = if k = 40 * x + i then v else σ 228 k) : zI_S σ' := by
  intro s a b
  have hs := t s a b
  rw [h 75 s (by decide) (by decide), h 226 s (by decide) (by decide), h 76 s (by decide) (by decide), h 227 s (by decide) (by decide), h 209 1 (by decide) (by decide)]
  refine ⟨hs.1, hs.2.1, fun j c d => ?_⟩
  rw [h1, h2, hs.2.2 j c d]
theorem op_1 (w : zW) (x1 x2 v : Int) (c2 : zc32 x2) : zOp zInv w 139 310 [zI x1, zI x2, zJ v] := by
  intro σ hI
  by_cases h1 : 0 ≤ x1 ∧ x1 < 8
  · have hs := hI.2.2.2.2.2.1 x1 h1.1 h1.2
    have e75 : σ 75 x1 = σ 226 x1 := hs.1
    by_cases q1 : σ 226 x1 = -1
    · refine yref hI (n := -64) ((eX11_set w 998 x1 x2 v σ).trans ?_) ((eX12_set w 998 x1 x2 v _).trans ?_)
      · rw [s_195n w (by decide) h1 (by omega), Option.bind_some]
        dsimp only
        rw [if_neg (by decide), s_194 w 998 (by decide), Option.bind_some]
      · simp only [s_307 w (show 1 ≤ 998 by decide), Option.bind_some, zt_if, s_214 w 998 (n := -64) (by decide)]
        have e : zrA σ (-64) 226 x1 = -1 := (zup_f (Or.inl (by decide))).trans q1
        rw [if_pos h1, if_pos h1, e, if_neg (by decide), if_pos h1, if_pos (by decide)]
    · by_cases q2 : σ 226 x1 ≤ 4
      · have q3 : 0 ≤ σ 226 x1 ∧ σ 76 x1 = σ 227 x1 ∧ 0 ≤ σ 227 x1 ∧ σ 227 x1 ≤ 40 := by omega
        by_cases q4 : 0 ≤ x2 ∧ x2 ≤ σ 227 x1 - 1
        · have e4 : ∀ p : Int, p = 40 * x1 → zar 0 p x2 = 40 * x1 + x2 := fun p hp => by rw [za_0, hp, zw32_i (by omega)]
          refine yop 1 (zup σ 77 (40 * x1 + x2) (ynar (σ 226 x1) v)) (zup (zup σ 77 (40 * x1 + x2) (ynar (σ 226 x1) v)) 228 (40 * x1 + x2) (ynar (σ 226 x1) v)) ((eX11_set w 998 x1 x2 v σ).trans ?_) ((eX12_set w 998 x1 x2 v _).trans ?_) ?_
          · rw [s_195r w (by decide) h1 (by omega), Option.bind_some, if_pos rfl]
            simp only [s_82 w (show 1 ≤ 998 by decide), Option.bind_some, s_200, zt_if]
            rw [if_pos h1, za_1, zw32_i (by omega), if_pos (by omega), eX7_putElement w 997]
            simp only [s_87 w (show 1 ≤ 997 by decide), Option.bind_some, zt_if]
            rw [if_pos (by omega), if_pos h1, e75, s_90 w 997 (by omega), Option.bind_some, za_2, zw32_i (by omega), e4 _ (by omega), if_pos (by omega)]
            rfl
          · have g : ∀ a k, a ≠ 77 → zup σ 77 (40 * x1 + x2) (ynar (σ 226 x1) v) a k = σ a k := fun a k q => zup_f (Or.inl q)
            simp only [s_307 w (show 1 ≤ 998 by decide), Option.bind_some, zt_if, g 226 x1 (by decide), g 227 x1 (by decide), s_213]
            rw [if_pos h1, if_pos h1, if_neg (by omega), if_pos h1, if_neg (by omega), if_pos h1, za_1, zw32_i (by omega), if_pos (by omega), if_pos h1, s_309 w 998 (by omega), Option.bind_some, za_2, zw32_i (by omega), e4 _ rfl, if_pos (by omega)]
          · refine zInv_S hI (fun a k q r => ?_) (zI_S_el (v := ynar (σ 226 x1) v) hI.2.2.2.2.2.1 h1 (show 0 ≤ x2 ∧ x2 < 40 by omega) (fun a k q r => ?_) (fun k => ?_) fun k => ?_)
            · rw [zup_f (by omega), zup_f (by omega)]
            · rw [zup_f (by omega), zup_f (by omega)]
            · rw [zup_f (by omega)]
              by_cases e : k = 40 * x1 + x2
              · rw [if_pos e, zup_t (by omega)]
              · rw [if_neg e, zup_f (by omega)]
            · by_cases e : k = 40 * x1 + x2
              · rw [if_pos e, zup_t (by omega)]
              · rw [if_neg e, zup_f (by omega), zup_f (by omega)]
        · refine yref hI (n := -62) ((eX11_set w 998 x1 x2 v σ).trans ?_) ((eX12_set w 998 x1 x2 v _).trans ?_)
          · rw [s_195r w (by decide) h1 (by omega), Option.bind_some, if_pos rfl]
            simp only [s_82 w (show 1 ≤ 998 by decide), Option.bind_some, s_200, zt_if]
            rw [if_pos h1, za_1, zw32_i (by omega), if_neg (by omega), s_194 w 998 (by decide), Option.bind_some]
          · have g : ∀ a k, a ≠ 208 → zrA σ (-62) a k = σ a k := fun a k q => zup_f (Or.inl q)
            simp only [s_307 w (show 1 ≤ 998 by decide), Option.bind_some, zt_if, g 226 x1 (by decide), g 227 x1 (by decide), s_213]
            rw [if_pos h1, if_pos h1, if_neg (by omega), if_pos h1, if_neg (by omega), if_pos h1, za_1, zw32_i (by omega), if_neg (by omega), s_214 w 998 (by decide), Option.bind_some]
      · refine yref hI (n := -63) ((eX11_set w 998 x1 x2 v σ).trans ?_) ((eX12_set w 998 x1 x2 v _).trans ?_)
        · rw [s_195o w (by decide) h1 (by omega), Option.bind_some]
          dsimp only
          rw [if_neg (by decide), s_194 w 998 (by decide), Option.bind_some]
        · have g : ∀ a k, a ≠ 208 → zrA σ (-63) a k = σ a k := fun a k q => zup_f (Or.inl q)
          simp only [s_307 w (show 1 ≤ 998 by decide), Option.bind_some, zt_if, g 226 x1 (by decide)]
          rw [if_pos h1, if_pos h1, if_pos (by omega), s_214 w 998 (by decide), Option.bind_some]
  · refine yref hI (n := -62) ((eX11_set w 998 x1 x2 v σ).trans ?_) ((eX12_set w 998 x1 x2 v _).trans ?_)
    · rw [s_195b w (by decide) h1, Option.bind_some]
      dsimp only
      rw [if_neg (by decide), s_194 w 998 (by decide), Option.bind_some]
    · simp only [s_307 w (show 1 ≤ 998 by decide), Option.bind_some, zt_if]
      rw [if_neg h1, s_214 w 998 (by decide), Option.bind_some]
theorem op_3 (w : zW) (x1 x2 : Int) (c2 : zc32 x2) : zOp zInv w 141 312 [zI x1, zI x2] := by
  intro σ hI
  have e1 : zcall w 999 141 [zA 12 16 1, zI x1, zI x2] σ = some (if (0 ≤ x1 ∧ x1 < 8) ∧ (0 ≤ x2 ∧ x2 ≤ 39) ∧ x2 < σ 76 x1 then σ 77 (40 * x1 + x2) else 0, σ) := by
    refine (eX11_element w 998 x1 x2 σ).trans ?_
    rw [s_88 w (by decide), Option.bind_some]
  by_cases h1 : 0 ≤ x1 ∧ x1 < 8
  · have hs := hI.2.2.2.2.2.1 x1 h1.1 h1.2
    by_cases h2 : (0 ≤ σ 226 x1 ∧ σ 226 x1 ≤ 4) ∧ 0 ≤ x2 ∧ x2 ≤ σ 227 x1 - 1
    · have e4 : zar 0 (zar 2 40 x1) x2 = 40 * x1 + x2 := by rw [za_2, za_0, zw32_i (z := 40 * x1) (by omega), zw32_i (by omega)]
      rw [if_pos (by omega), hs.2.2 x2 (by omega) (by omega)] at e1
      refine yask hI e1 ((eX12_element w 998 x1 x2 σ).trans ?_)
      simp only [s_307 w (show 1 ≤ 998 by decide), Option.bind_some, zt_if, s_213]
      rw [if_pos h1, if_pos h1, if_pos h2.1, if_pos h1, za_1, zw32_i (by omega), if_pos h2.2, e4, if_pos (by omega)]
    · rw [if_neg (by omega)] at e1
      refine yask hI e1 ((eX12_element w 998 x1 x2 σ).trans ?_)
      simp only [s_307 w (show 1 ≤ 998 by decide), Option.bind_some, zt_if, s_213]
      rw [if_pos h1, if_pos h1]
      by_cases h3 : 0 ≤ σ 226 x1 ∧ σ 226 x1 ≤ 4
      · rw [if_pos h3, if_pos h1, za_1, zw32_i (by omega), if_neg (by omega)]
      · rw [if_neg h3]
  · rw [if_neg (fun q => h1 q.1)] at e1
    refine yask hI e1 ((eX12_element w 998 x1 x2 σ).trans ?_)
    simp only [s_307 w (show 1 ≤ 998 by decide), Option.bind_some, zt_if]
    rw [if_neg h1]
theorem op_4 (w : zW) (x1 : Int) : zOp zInv w 142 313 [zI x1] := by
  intro σ hI
  by_cases h1 : 0 ≤ x1 ∧ x1 < 8
  · have hs := hI.2.2.2.2.2.1 x1 h1.1 h1.2
    refine yask (r := σ 226 x1) hI ((eX11_holds w 998 x1 σ).trans ?_) ((eX12_holds w 998 x1 σ).trans ?_)
    · rw [s_81 w (by decide), Option.bind_some, if_pos h1, hs.1]
    · simp only [s_307 w (show 1 ≤ 998 by decide), Option.bind_some, zt_if]
      rw [if_pos h1, if_pos h1]
  · refine yask (r := -1) hI ((eX11_holds w 998 x1 σ).trans ?_) ((eX12_holds w 998 x1 σ).trans ?_)
    · rw [s_81 w (by decide), Option.bind_some, if_neg h1]
    · simp only [s_307 w (show 1 ≤ 998 by decide), Option.bind_some, zt_if]
      rw [if_neg h1]
