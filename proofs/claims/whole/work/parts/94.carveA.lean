/-! What is carved: the class' method -/
theorem zu64_m1 {i : Nat} (h : i < 64) : (zu64 (-1)).testBit i = true := by
  have e : zu64 (-1) = 2 ^ 64 - 1 := by decide +kernel
  rw [e, Nat.testBit_two_pow_sub_one]
  simp [h]
theorem ycw_bit {how x y b g : Int} {i : Nat} (hh : 0 ≤ how ∧ how ≤ 3) (hi : i < 64) (hb : 0 ≤ b ∧ b ≤ 1) (hg : 0 ≤ g ∧ g ≤ 1) (hx : (zu64 x).testBit i = zbo b) (hy : (zu64 y).testBit i = zbo g) :
    (zu64 (ycw how x y)).testBit i = zbo (ych how b g) := by
  have hb' : b = 0 ∨ b = 1 := by omega
  have hg' : g = 0 ∨ g = 1 := by omega
  have hh' : how = 0 ∨ how = 1 ∨ how = 2 ∨ how = 3 := by omega
  rcases hh' with rfl | rfl | rfl | rfl
  · rw [ycw, if_pos rfl, zu64_and, Nat.testBit_and, zu64_xor, Nat.testBit_xor, zu64_m1 hi, hx, hy]
    rcases hb' with rfl | rfl <;> rcases hg' with rfl | rfl <;> decide
  · rw [ycw, if_neg (by decide), if_pos rfl, zu64_and, Nat.testBit_and, hx, hy]
    rcases hb' with rfl | rfl <;> rcases hg' with rfl | rfl <;> decide
  · rw [ycw, if_neg (by decide), if_neg (by decide), if_pos rfl, zu64_and, Nat.testBit_and, zu64_xor, Nat.testBit_xor, zu64_m1 hi, hx, hy]
    rcases hb' with rfl | rfl <;> rcases hg' with rfl | rfl <;> decide
  · rw [ycw, if_neg (by decide), if_neg (by decide), if_neg (by decide), hy]
    rcases hb' with rfl | rfl <;> rcases hg' with rfl | rfl <;> decide
theorem yto_bit {how b g : Int} (hh : 0 ≤ how ∧ how ≤ 3) (hb : 0 ≤ b ∧ b ≤ 1) (hg : 0 ≤ g ∧ g ≤ 1) : (zbo b != zbo (ych how b g)) = zbo (yto how b g) := by
  have hb' : b = 0 ∨ b = 1 := by omega
  have hg' : g = 0 ∨ g = 1 := by omega
  have hh' : how = 0 ∨ how = 1 ∨ how = 2 ∨ how = 3 := by omega
  rcases hh' with rfl | rfl | rfl | rfl <;> rcases hb' with rfl | rfl <;> rcases hg' with rfl | rfl <;> decide
theorem s_7 (w : zW) {d : Nat} (hd : 2 ≤ d) {how nc na sd a1 : Int} {b g : Int → Int} {c : Int → Int → Int} {σ : zMem} (hh : 0 ≤ how ∧ how ≤ 3) (hB : zBl 18 σ b c nc na sd)
    (ha : 46 ≤ zR w a1 0 ∧ zR w a1 0 ≤ 208) (hg : ∀ p : Int, 0 ≤ p → p < 4096 → 0 ≤ g p ∧ g p ≤ 1) (hgb : zPS σ (zR w a1 0) (fun p => zbo (g p))) :
    ∃ σ', zcall w d 7 [zA 1 6 18, zA 6 1 a1, zI how] σ = some (((yct (fun p => zbo (ych how (b p) (g p))) 4096 : Nat) : Int), σ')
      ∧ zBl 18 σ' (fun p => yto how (b p) (g p)) (fun i => if i = min (nc + 1) 12 - 1 then (fun p => ych how (b p) (g p)) else c (i + (nc + 1 - min (nc + 1) 12))) (min (nc + 1) 12) (zw32 (na + 1)) sd
      ∧ ∀ a k, ¬ (18 ≤ a ∧ a ≤ 45) → σ' a k = σ a k := by
  obtain ⟨d, rfl⟩ : ∃ e, d = e + 1 := ⟨d - 1, by omega⟩
  obtain ⟨v1, v2, v3, v4, v5, v6, v7, v8, v9, v10⟩ := hB
  obtain ⟨j, hj⟩ : ∃ j, j = σ 18 2 := ⟨_, rfl⟩
  have hj2 : 0 ≤ j ∧ j < 12 := by omega
  have r1 : zR w 18 0 = 19 := rfl
  have r2 : zR w 19 0 = 20 := rfl
  have r3 : zR w 18 1 = 21 := rfl
  obtain ⟨r4, r5⟩ := yr21 w hj2
  obtain ⟨σa, hσa⟩ : ∃ σa, σa = ywm (23 + 2 * j) (fun k => ycw how (σ 20 k) (σ (zR w a1 0) k)) 0 σ := ⟨_, rfl⟩
  obtain ⟨σb, hσb⟩ : ∃ σb, σb = ywm 20 (fun k => zar 19 (σa 20 k) (σa (23 + 2 * j) k)) 0 σa := ⟨_, rfl⟩
  obtain ⟨σc, hσc⟩ : ∃ σc, σc = zup (zup (zup σb 18 2 ((j + 1) % 12)) 18 3 (min (nc + 1) 12)) 18 4 (zw32 (na + 1)) := ⟨_, rfl⟩
  have a1' : ∀ a k, a ≠ 23 + 2 * j → σa a k = σ a k := fun a k q => by rw [hσa, ywm_f (by omega)]
  have b1' : ∀ a k, a ≠ 20 → σb a k = σa a k := fun a k q => by rw [hσb, ywm_f (by omega)]
  have c1' : ∀ a k, ¬ (a = 18 ∧ (k = 2 ∨ k = 3 ∨ k = 4)) → σc a k = σb a k := fun a k q => by rw [hσc, zup_f (by omega), zup_f (by omega), zup_f (by omega)]
  have bitA : ∀ p, 0 ≤ p → p < 4096 → zbit σa (23 + 2 * j) p = zbo (ych how (b p) (g p)) := fun p x y => by
    rw [hσa, zbit_wm ⟨x, y⟩]
    exact ycw_bit hh (by omega) (v9 p x y) (hg p x y) (v8 p x y) (hgb p x y)
  have bitAc : ∀ p, 0 ≤ p → p < 4096 → zbit σc (23 + 2 * j) p = zbo (ych how (b p) (g p)) := fun p x y => by
    rw [← bitA p x y]
    exact zbit_fr fun k => by rw [c1' _ _ (by omega), b1' _ _ (by omega)]
  have bitB : ∀ p, 0 ≤ p → p < 4096 → zbit σc 20 p = zbo (yto how (b p) (g p)) := fun p x y => by
    have e : zbit σc 20 p = zbit σb 20 p := zbit_fr fun k => c1' _ _ (by omega)
    have e2 : zbit σb 20 p = ybw (fun k => zar 19 (σa 20 k) (σa (23 + 2 * j) k)) p := by rw [hσb, zbit_wm ⟨x, y⟩]; rfl
    have e3 : zbit σa 20 p = zbo (b p) := (zbit_fr fun k => a1' _ _ (by omega)).trans (v8 p x y)
    rw [e, e2, zbit_xor, e3, bitA p x y, yto_bit hh (v9 p x y) (hg p x y)]
  have s2 : σc 18 2 = (j + 1) % 12 := by rw [hσc, zup_f (by omega), zup_f (by omega), zup_t (by omega)]
  have s3 : σc 18 3 = min (nc + 1) 12 := by rw [hσc, zup_f (by omega), zup_t (by omega)]
  have s4 : σc 18 4 = zw32 (na + 1) := by rw [hσc, zup_t (by omega)]
  refine ⟨σc, ?_, ⟨s3, s4, ?_, by omega, by omega, by omega, by omega, bitB, fun p x y => yto_01 _ _ _, fun i x y => ?_⟩, fun a k q => ?_⟩
  · rw [eX0_carveBy, s_339 w d ⟨by omega, by omega⟩ (by decide), Option.bind_some]
    dsimp only
    rw [show σ 18 2 % 12 = j by omega, if_pos hj2, r1, r3, r4, s_55 w d (by rw [r5]; omega), Option.bind_some, r5, r2, ← hσa]
    dsimp only
    rw [s_56 w d (by rw [r2]; decide), Option.bind_some, r5, r2, ← hσb]
    dsimp only
    have b2 : σb 18 2 = j := by rw [b1' _ _ (by omega), a1' _ _ (by omega), hj]
    have b3 : σb 18 3 = nc := by rw [b1' _ _ (by omega), a1' _ _ (by omega), v1]
    have b4 : σb 18 4 = na := by rw [b1' _ _ (by omega), a1' _ _ (by omega), v2]
    rw [b2, za_0, zw32_i (by omega), s_339 w d ⟨by omega, by omega⟩ (by decide), Option.bind_some]
    dsimp only
    rw [zup_f (a' := 18) (k' := 3) (by omega), b3, za_0, zw32_i (by omega), s_343, Option.bind_some]
    dsimp only
    rw [zup_f (a' := 18) (k' := 4) (by omega), zup_f (a' := 18) (k' := 4) (by omega), b4, za_0, ← hσc, s_57 w (show 1 ≤ d by omega), Option.bind_some, r5, yct_c (n := 4096) (f := zbit σc (23 + 2 * j)) (g := fun p => zbo (ych how (b p) (g p))) (fun p x y => bitAc p x y)]
  · rw [c1' _ _ (by omega), b1' _ _ (by omega), a1' _ _ (by omega), v3]
  · dsimp only
    by_cases e : i = min (nc + 1) 12 - 1
    · rw [if_pos e, s2, show 18 + 5 + 2 * (((j + 1) % 12 - min (nc + 1) 12 + i) % 12) = 23 + 2 * j by omega]
      exact ⟨bitAc, fun p _ _ => ych_01 _ _ _⟩
    · have h10 := v10 (i + (nc + 1 - min (nc + 1) 12)) (by omega) (by omega)
      rw [if_neg e, s2, show ((j + 1) % 12 - min (nc + 1) 12 + i) % 12 = (σ 18 2 - nc + (i + (nc + 1 - min (nc + 1) 12))) % 12 by omega]
      refine ⟨zPS_fr (fun k => ?_) h10.1, h10.2⟩
      rw [c1' _ _ (by omega), b1' _ _ (by omega), a1' _ _ (by omega)]
  · rw [c1' _ _ (by omega), b1' _ _ (by omega), a1' _ _ (by omega)]
