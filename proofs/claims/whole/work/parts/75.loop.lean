/-! The law's loop, over what stays true between calls, out of what each call answers -/
theorem zw32_i {z : Int} (h : -2147483648 ≤ z ∧ z < 2147483648) : zw32 z = z := zw32_id h
theorem zw64_i {z : Int} (h : -9223372036854775808 ≤ z ∧ z < 9223372036854775808) : zw64 z = z := zw64_id h
theorem zcmp_s (x : Int) : zar 22 x x = 0 := by rw [za_22, zcmp]; simp
/-- class and reference answer a call alike, and what I says stays true -/
def zOp (I : zMem → Prop) (w : zW) (y1 y2 : Nat) (as : List zV) : Prop := ∀ σ, I σ → ∃ r σ1 σ2, zcall w 999 y1 (zA 12 16 1 :: as) σ = some (r, σ1) ∧ zcall w 999 y2 (zA 13 32 209 :: as) σ1 = some (r, σ2) ∧ I σ2
def zLaw1 (w : zW) (I : zMem → Prop) (σ : zMem) (pc : Nat) (x3 : Int) : Prop := ∃ σ2, zden w (999 + 1) 352 pc [zA 23 w.1 (-1), zA 12 16 1, zA 13 32 209, zI x3] [] σ = zden w (999 + 1) 352 10 [zA 23 w.1 (-1), zA 12 16 1, zA 13 32 209, zI (x3 + 7)] [] σ2 ∧ I σ2
theorem zrw (w : zW) (k : Int) : zR w (-1) k = w.2 k := rfl

theorem zlw_22 {w : zW} {I : zMem → Prop} (h22 : ∀ x1 x2 x3 : Int, zc32 x1 → zc32 x2 → zc32 x3 → zOp I w 138 308 [zI x1, zI x2, zI x3]) (hc : ∀ k : Int, 0 ≤ k → k < w.1 → zc32 (zR w (-1) k)) (hn : w.1 ≤ 3584) {x3 : Int} (hx : 0 ≤ x3) (hx2 : x3 + 7 ≤ w.1) {σ : zMem} (hσ : I σ) : zLaw1 w I σ 22 x3 := by
  have a1 : zar 0 x3 1 = x3 + 1 := by rw [za_0]; exact zw32_i (by omega)
  have a2 : zar 0 x3 2 = x3 + 2 := by rw [za_0]; exact zw32_i (by omega)
  have a3 : zar 0 x3 3 = x3 + 3 := by rw [za_0]; exact zw32_i (by omega)
  have a7 : zar 0 x3 7 = x3 + 7 := by rw [za_0]; exact zw32_i (by omega)
  have b1 : (0 : Int) ≤ x3 + 1 ∧ x3 + 1 < w.1 := by omega
  have b2 : (0 : Int) ≤ x3 + 2 ∧ x3 + 2 < w.1 := by omega
  have b3 : (0 : Int) ≤ x3 + 3 ∧ x3 + 3 < w.1 := by omega
  obtain ⟨r, σ1, σ2, e1, e2, hI⟩ := h22 _ _ _ (hc (x3 + 1) (by omega) (by omega)) (hc (x3 + 2) (by omega) (by omega)) (hc (x3 + 3) (by omega) (by omega)) σ hσ
  refine ⟨σ2, ?_, hI⟩
  rw [hL_law_22]
  simp only [a1, a2, a3, if_pos b1, if_pos b2, if_pos b3]
  rw [e1, Option.bind_some]
  simp only [e2, Option.bind_some, zcmp_s, if_true, eq_self]
  rw [hL_law_1498, a7]

theorem zlw_59 {w : zW} {I : zMem → Prop} (h59 : ∀ x1 x2 v : Int, zc32 x1 → zc32 x2 → zc64 v → zOp I w 139 310 [zI x1, zI x2, zJ v]) (hc : ∀ k : Int, 0 ≤ k → k < w.1 → zc32 (zR w (-1) k)) (hn : w.1 ≤ 3584) {x3 : Int} (hx : 0 ≤ x3) (hx2 : x3 + 7 ≤ w.1) {σ : zMem} (hσ : I σ) : zLaw1 w I σ 59 x3 := by
  have a1 : zar 0 x3 1 = x3 + 1 := by rw [za_0]; exact zw32_i (by omega)
  have a2 : zar 0 x3 2 = x3 + 2 := by rw [za_0]; exact zw32_i (by omega)
  have a3 : zar 0 x3 3 = x3 + 3 := by rw [za_0]; exact zw32_i (by omega)
  have a4 : zar 0 x3 4 = x3 + 4 := by rw [za_0]; exact zw32_i (by omega)
  have a7 : zar 0 x3 7 = x3 + 7 := by rw [za_0]; exact zw32_i (by omega)
  have b1 : (0 : Int) ≤ x3 + 1 ∧ x3 + 1 < w.1 := by omega
  have b2 : (0 : Int) ≤ x3 + 2 ∧ x3 + 2 < w.1 := by omega
  have b3 : (0 : Int) ≤ x3 + 3 ∧ x3 + 3 < w.1 := by omega
  have b4 : (0 : Int) ≤ x3 + 4 ∧ x3 + 4 < w.1 := by omega
  obtain ⟨r, σ1, σ2, e1, e2, hI⟩ := h59 _ _ (zar 18 (zar 20 (zR w (-1) (x3 + 3)) 32) (zar 17 (zR w (-1) (x3 + 4)) 4294967295)) (hc (x3 + 1) (by omega) (by omega)) (hc (x3 + 2) (by omega) (by omega)) (by rw [za_18]; exact zw64_c _) σ hσ
  refine ⟨σ2, ?_, hI⟩
  rw [hL_law_59]
  simp only [a1, a2, a3, a4, if_pos b1, if_pos b2, if_pos b3, if_pos b4]
  rw [e1, Option.bind_some]
  simp only [e2, Option.bind_some, zcmp_s, if_true, eq_self]
  rw [hL_law_1498, a7]

theorem zlw_120 {w : zW} {I : zMem → Prop} (h120 : ∀ x1 x2 x3 x4 x5 : Int, zc32 x1 → zc32 x2 → zc32 x3 → zc32 x4 → zc32 x5 → zOp I w 140 311 [zI x1, zI x2, zI x3, zI x4, zI x5]) (hc : ∀ k : Int, 0 ≤ k → k < w.1 → zc32 (zR w (-1) k)) (hn : w.1 ≤ 3584) {x3 : Int} (hx : 0 ≤ x3) (hx2 : x3 + 7 ≤ w.1) {σ : zMem} (hσ : I σ) : zLaw1 w I σ 120 x3 := by
  have a1 : zar 0 x3 1 = x3 + 1 := by rw [za_0]; exact zw32_i (by omega)
  have a2 : zar 0 x3 2 = x3 + 2 := by rw [za_0]; exact zw32_i (by omega)
  have a3 : zar 0 x3 3 = x3 + 3 := by rw [za_0]; exact zw32_i (by omega)
  have a4 : zar 0 x3 4 = x3 + 4 := by rw [za_0]; exact zw32_i (by omega)
  have a5 : zar 0 x3 5 = x3 + 5 := by rw [za_0]; exact zw32_i (by omega)
  have a7 : zar 0 x3 7 = x3 + 7 := by rw [za_0]; exact zw32_i (by omega)
  have b1 : (0 : Int) ≤ x3 + 1 ∧ x3 + 1 < w.1 := by omega
  have b2 : (0 : Int) ≤ x3 + 2 ∧ x3 + 2 < w.1 := by omega
  have b3 : (0 : Int) ≤ x3 + 3 ∧ x3 + 3 < w.1 := by omega
  have b4 : (0 : Int) ≤ x3 + 4 ∧ x3 + 4 < w.1 := by omega
  have b5 : (0 : Int) ≤ x3 + 5 ∧ x3 + 5 < w.1 := by omega
  obtain ⟨r, σ1, σ2, e1, e2, hI⟩ := h120 _ _ _ _ _ (hc (x3 + 1) (by omega) (by omega)) (hc (x3 + 2) (by omega) (by omega)) (hc (x3 + 3) (by omega) (by omega)) (hc (x3 + 4) (by omega) (by omega)) (hc (x3 + 5) (by omega) (by omega)) σ hσ
  refine ⟨σ2, ?_, hI⟩
  rw [hL_law_120]
  simp only [a1, a2, a3, a4, a5, if_pos b1, if_pos b2, if_pos b3, if_pos b4, if_pos b5]
  rw [e1, Option.bind_some]
  simp only [e2, Option.bind_some, zcmp_s, if_true, eq_self]
  rw [hL_law_1498, a7]

theorem zlw_177 {w : zW} {I : zMem → Prop} (h177 : ∀ x1 x2 : Int, zc32 x1 → zc32 x2 → zOp I w 141 312 [zI x1, zI x2]) (hc : ∀ k : Int, 0 ≤ k → k < w.1 → zc32 (zR w (-1) k)) (hn : w.1 ≤ 3584) {x3 : Int} (hx : 0 ≤ x3) (hx2 : x3 + 7 ≤ w.1) {σ : zMem} (hσ : I σ) : zLaw1 w I σ 177 x3 := by
  have a1 : zar 0 x3 1 = x3 + 1 := by rw [za_0]; exact zw32_i (by omega)
  have a2 : zar 0 x3 2 = x3 + 2 := by rw [za_0]; exact zw32_i (by omega)
  have a7 : zar 0 x3 7 = x3 + 7 := by rw [za_0]; exact zw32_i (by omega)
  have b1 : (0 : Int) ≤ x3 + 1 ∧ x3 + 1 < w.1 := by omega
  have b2 : (0 : Int) ≤ x3 + 2 ∧ x3 + 2 < w.1 := by omega
  obtain ⟨r, σ1, σ2, e1, e2, hI⟩ := h177 _ _ (hc (x3 + 1) (by omega) (by omega)) (hc (x3 + 2) (by omega) (by omega)) σ hσ
  refine ⟨σ2, ?_, hI⟩
  rw [hL_law_177]
  simp only [a1, a2, if_pos b1, if_pos b2]
  rw [e1, Option.bind_some]
  simp only [e2, Option.bind_some, zcmp_s, if_true, eq_self]
  rw [hL_law_1498, a7]

theorem zlw_205 {w : zW} {I : zMem → Prop} (h205 : ∀ x1 : Int, zc32 x1 → zOp I w 142 313 [zI x1]) (hc : ∀ k : Int, 0 ≤ k → k < w.1 → zc32 (zR w (-1) k)) (hn : w.1 ≤ 3584) {x3 : Int} (hx : 0 ≤ x3) (hx2 : x3 + 7 ≤ w.1) {σ : zMem} (hσ : I σ) : zLaw1 w I σ 205 x3 := by
  have a1 : zar 0 x3 1 = x3 + 1 := by rw [za_0]; exact zw32_i (by omega)
  have a7 : zar 0 x3 7 = x3 + 7 := by rw [za_0]; exact zw32_i (by omega)
  have b1 : (0 : Int) ≤ x3 + 1 ∧ x3 + 1 < w.1 := by omega
  obtain ⟨r, σ1, σ2, e1, e2, hI⟩ := h205 _ (hc (x3 + 1) (by omega) (by omega)) σ hσ
  refine ⟨σ2, ?_, hI⟩
  rw [hL_law_205]
  simp only [a1, if_pos b1]
  rw [e1, Option.bind_some]
  simp only [e2, Option.bind_some, zcmp_s, if_true, eq_self]
  rw [hL_law_1498, a7]

theorem zlw_222 {w : zW} {I : zMem → Prop} (h222 : ∀ x1 x2 : Int, zc32 x1 → zc32 x2 → zOp I w 143 314 [zI x1, zI x2]) (hc : ∀ k : Int, 0 ≤ k → k < w.1 → zc32 (zR w (-1) k)) (hn : w.1 ≤ 3584) {x3 : Int} (hx : 0 ≤ x3) (hx2 : x3 + 7 ≤ w.1) {σ : zMem} (hσ : I σ) : zLaw1 w I σ 222 x3 := by
  have a1 : zar 0 x3 1 = x3 + 1 := by rw [za_0]; exact zw32_i (by omega)
  have a2 : zar 0 x3 2 = x3 + 2 := by rw [za_0]; exact zw32_i (by omega)
  have a7 : zar 0 x3 7 = x3 + 7 := by rw [za_0]; exact zw32_i (by omega)
  have b1 : (0 : Int) ≤ x3 + 1 ∧ x3 + 1 < w.1 := by omega
  have b2 : (0 : Int) ≤ x3 + 2 ∧ x3 + 2 < w.1 := by omega
  obtain ⟨r, σ1, σ2, e1, e2, hI⟩ := h222 _ _ (hc (x3 + 1) (by omega) (by omega)) (hc (x3 + 2) (by omega) (by omega)) σ hσ
  refine ⟨σ2, ?_, hI⟩
  rw [hL_law_222]
  simp only [a1, a2, if_pos b1, if_pos b2]
  rw [e1, Option.bind_some]
  simp only [e2, Option.bind_some, zcmp_s, if_true, eq_self]
  rw [hL_law_1498, a7]

theorem zlw_249 {w : zW} {I : zMem → Prop} (h249 : ∀ x1 x2 : Int, zc32 x1 → zc32 x2 → zOp I w 144 317 [zI x1, zI x2]) (hc : ∀ k : Int, 0 ≤ k → k < w.1 → zc32 (zR w (-1) k)) (hn : w.1 ≤ 3584) {x3 : Int} (hx : 0 ≤ x3) (hx2 : x3 + 7 ≤ w.1) {σ : zMem} (hσ : I σ) : zLaw1 w I σ 249 x3 := by
  have a1 : zar 0 x3 1 = x3 + 1 := by rw [za_0]; exact zw32_i (by omega)
  have a2 : zar 0 x3 2 = x3 + 2 := by rw [za_0]; exact zw32_i (by omega)
  have a7 : zar 0 x3 7 = x3 + 7 := by rw [za_0]; exact zw32_i (by omega)
  have b1 : (0 : Int) ≤ x3 + 1 ∧ x3 + 1 < w.1 := by omega
  have b2 : (0 : Int) ≤ x3 + 2 ∧ x3 + 2 < w.1 := by omega
  obtain ⟨r, σ1, σ2, e1, e2, hI⟩ := h249 _ _ (hc (x3 + 1) (by omega) (by omega)) (hc (x3 + 2) (by omega) (by omega)) σ hσ
  refine ⟨σ2, ?_, hI⟩
  rw [hL_law_249]
  simp only [a1, a2, if_pos b1, if_pos b2]
  rw [e1, Option.bind_some]
  simp only [e2, Option.bind_some, zcmp_s, if_true, eq_self]
  rw [hL_law_1498, a7]

theorem zlw_276 {w : zW} {I : zMem → Prop} (h276 : ∀ x1 : Int, zc32 x1 → zOp I w 147 296 [zI x1]) (hc : ∀ k : Int, 0 ≤ k → k < w.1 → zc32 (zR w (-1) k)) (hn : w.1 ≤ 3584) {x3 : Int} (hx : 0 ≤ x3) (hx2 : x3 + 7 ≤ w.1) {σ : zMem} (hσ : I σ) : zLaw1 w I σ 276 x3 := by
  have a1 : zar 0 x3 1 = x3 + 1 := by rw [za_0]; exact zw32_i (by omega)
  have a7 : zar 0 x3 7 = x3 + 7 := by rw [za_0]; exact zw32_i (by omega)
  have b1 : (0 : Int) ≤ x3 + 1 ∧ x3 + 1 < w.1 := by omega
  obtain ⟨r, σ1, σ2, e1, e2, hI⟩ := h276 _ (hc (x3 + 1) (by omega) (by omega)) σ hσ
  refine ⟨σ2, ?_, hI⟩
  rw [hL_law_276]
  simp only [a1, if_pos b1]
  rw [e1, Option.bind_some]
  simp only [e2, Option.bind_some, zcmp_s, if_true, eq_self]
  rw [hL_law_1498, a7]

theorem zlw_293 {w : zW} {I : zMem → Prop} (h293 : zOp I w 148 297 []) (hc : ∀ k : Int, 0 ≤ k → k < w.1 → zc32 (zR w (-1) k)) (hn : w.1 ≤ 3584) {x3 : Int} (hx : 0 ≤ x3) (hx2 : x3 + 7 ≤ w.1) {σ : zMem} (hσ : I σ) : zLaw1 w I σ 293 x3 := by
  have a7 : zar 0 x3 7 = x3 + 7 := by rw [za_0]; exact zw32_i (by omega)
  obtain ⟨r, σ1, σ2, e1, e2, hI⟩ := h293   σ hσ
  refine ⟨σ2, ?_, hI⟩
  rw [hL_law_293]
  rw [e1, Option.bind_some]
  simp only [e2, Option.bind_some, zcmp_s, if_true, eq_self]
  rw [hL_law_1498, a7]

theorem zlw_300 {w : zW} {I : zMem → Prop} (h300 : zOp I w 149 306 []) (hc : ∀ k : Int, 0 ≤ k → k < w.1 → zc32 (zR w (-1) k)) (hn : w.1 ≤ 3584) {x3 : Int} (hx : 0 ≤ x3) (hx2 : x3 + 7 ≤ w.1) {σ : zMem} (hσ : I σ) : zLaw1 w I σ 300 x3 := by
  have a7 : zar 0 x3 7 = x3 + 7 := by rw [za_0]; exact zw32_i (by omega)
  obtain ⟨r, σ1, σ2, e1, e2, hI⟩ := h300   σ hσ
  refine ⟨σ2, ?_, hI⟩
  rw [hL_law_300]
  rw [e1, Option.bind_some]
  simp only [e2, Option.bind_some, zcmp_s, if_true, eq_self]
  rw [hL_law_1498, a7]

theorem zlw_307 {w : zW} {I : zMem → Prop} (h307 : ∀ x1 x2 x3 x4 : Int, zc32 x1 → zc32 x2 → zc32 x3 → zc32 x4 → zOp I w 150 284 [zI x1, zI x2, zI x3, zI x4]) (hc : ∀ k : Int, 0 ≤ k → k < w.1 → zc32 (zR w (-1) k)) (hn : w.1 ≤ 3584) {x3 : Int} (hx : 0 ≤ x3) (hx2 : x3 + 7 ≤ w.1) {σ : zMem} (hσ : I σ) : zLaw1 w I σ 307 x3 := by
  have a1 : zar 0 x3 1 = x3 + 1 := by rw [za_0]; exact zw32_i (by omega)
  have a2 : zar 0 x3 2 = x3 + 2 := by rw [za_0]; exact zw32_i (by omega)
  have a3 : zar 0 x3 3 = x3 + 3 := by rw [za_0]; exact zw32_i (by omega)
  have a4 : zar 0 x3 4 = x3 + 4 := by rw [za_0]; exact zw32_i (by omega)
  have a7 : zar 0 x3 7 = x3 + 7 := by rw [za_0]; exact zw32_i (by omega)
  have b1 : (0 : Int) ≤ x3 + 1 ∧ x3 + 1 < w.1 := by omega
  have b2 : (0 : Int) ≤ x3 + 2 ∧ x3 + 2 < w.1 := by omega
  have b3 : (0 : Int) ≤ x3 + 3 ∧ x3 + 3 < w.1 := by omega
  have b4 : (0 : Int) ≤ x3 + 4 ∧ x3 + 4 < w.1 := by omega
  obtain ⟨r, σ1, σ2, e1, e2, hI⟩ := h307 _ _ _ _ (hc (x3 + 1) (by omega) (by omega)) (hc (x3 + 2) (by omega) (by omega)) (hc (x3 + 3) (by omega) (by omega)) (hc (x3 + 4) (by omega) (by omega)) σ hσ
  refine ⟨σ2, ?_, hI⟩
  rw [hL_law_307]
  simp only [a1, a2, a3, a4, if_pos b1, if_pos b2, if_pos b3, if_pos b4]
  rw [e1, Option.bind_some]
  simp only [e2, Option.bind_some, zcmp_s, if_true, eq_self]
  rw [hL_law_1498, a7]

theorem zlw_354 {w : zW} {I : zMem → Prop} (h354 : ∀ x1 x2 x3 x4 x5 x6 : Int, zc32 x1 → zc32 x2 → zc32 x3 → zc32 x4 → zc32 x5 → zc32 x6 → zOp I w 151 285 [zI x1, zI x2, zI x3, zI x4, zI x5, zI x6]) (hc : ∀ k : Int, 0 ≤ k → k < w.1 → zc32 (zR w (-1) k)) (hn : w.1 ≤ 3584) {x3 : Int} (hx : 0 ≤ x3) (hx2 : x3 + 7 ≤ w.1) {σ : zMem} (hσ : I σ) : zLaw1 w I σ 354 x3 := by
  have a1 : zar 0 x3 1 = x3 + 1 := by rw [za_0]; exact zw32_i (by omega)
  have a2 : zar 0 x3 2 = x3 + 2 := by rw [za_0]; exact zw32_i (by omega)
  have a3 : zar 0 x3 3 = x3 + 3 := by rw [za_0]; exact zw32_i (by omega)
  have a4 : zar 0 x3 4 = x3 + 4 := by rw [za_0]; exact zw32_i (by omega)
  have a5 : zar 0 x3 5 = x3 + 5 := by rw [za_0]; exact zw32_i (by omega)
  have a6 : zar 0 x3 6 = x3 + 6 := by rw [za_0]; exact zw32_i (by omega)
  have a7 : zar 0 x3 7 = x3 + 7 := by rw [za_0]; exact zw32_i (by omega)
  have b1 : (0 : Int) ≤ x3 + 1 ∧ x3 + 1 < w.1 := by omega
  have b2 : (0 : Int) ≤ x3 + 2 ∧ x3 + 2 < w.1 := by omega
  have b3 : (0 : Int) ≤ x3 + 3 ∧ x3 + 3 < w.1 := by omega
  have b4 : (0 : Int) ≤ x3 + 4 ∧ x3 + 4 < w.1 := by omega
  have b5 : (0 : Int) ≤ x3 + 5 ∧ x3 + 5 < w.1 := by omega
  have b6 : (0 : Int) ≤ x3 + 6 ∧ x3 + 6 < w.1 := by omega
  obtain ⟨r, σ1, σ2, e1, e2, hI⟩ := h354 _ _ _ _ _ _ (hc (x3 + 1) (by omega) (by omega)) (hc (x3 + 2) (by omega) (by omega)) (hc (x3 + 3) (by omega) (by omega)) (hc (x3 + 4) (by omega) (by omega)) (hc (x3 + 5) (by omega) (by omega)) (hc (x3 + 6) (by omega) (by omega)) σ hσ
  refine ⟨σ2, ?_, hI⟩
  rw [hL_law_354]
  simp only [a1, a2, a3, a4, a5, a6, if_pos b1, if_pos b2, if_pos b3, if_pos b4, if_pos b5, if_pos b6]
  rw [e1, Option.bind_some]
  simp only [e2, Option.bind_some, zcmp_s, if_true, eq_self]
  rw [hL_law_1498, a7]

theorem zlw_421 {w : zW} {I : zMem → Prop} (h421 : ∀ x1 x2 x3 x4 : Int, zc32 x1 → zc32 x2 → zc32 x3 → zc32 x4 → zOp I w 152 286 [zI x1, zI x2, zI x3, zI x4]) (hc : ∀ k : Int, 0 ≤ k → k < w.1 → zc32 (zR w (-1) k)) (hn : w.1 ≤ 3584) {x3 : Int} (hx : 0 ≤ x3) (hx2 : x3 + 7 ≤ w.1) {σ : zMem} (hσ : I σ) : zLaw1 w I σ 421 x3 := by
  have a1 : zar 0 x3 1 = x3 + 1 := by rw [za_0]; exact zw32_i (by omega)
  have a2 : zar 0 x3 2 = x3 + 2 := by rw [za_0]; exact zw32_i (by omega)
  have a3 : zar 0 x3 3 = x3 + 3 := by rw [za_0]; exact zw32_i (by omega)
  have a4 : zar 0 x3 4 = x3 + 4 := by rw [za_0]; exact zw32_i (by omega)
  have a7 : zar 0 x3 7 = x3 + 7 := by rw [za_0]; exact zw32_i (by omega)
  have b1 : (0 : Int) ≤ x3 + 1 ∧ x3 + 1 < w.1 := by omega
  have b2 : (0 : Int) ≤ x3 + 2 ∧ x3 + 2 < w.1 := by omega
  have b3 : (0 : Int) ≤ x3 + 3 ∧ x3 + 3 < w.1 := by omega
  have b4 : (0 : Int) ≤ x3 + 4 ∧ x3 + 4 < w.1 := by omega
  obtain ⟨r, σ1, σ2, e1, e2, hI⟩ := h421 _ _ _ _ (hc (x3 + 1) (by omega) (by omega)) (hc (x3 + 2) (by omega) (by omega)) (hc (x3 + 3) (by omega) (by omega)) (hc (x3 + 4) (by omega) (by omega)) σ hσ
  refine ⟨σ2, ?_, hI⟩
  rw [hL_law_421]
  simp only [a1, a2, a3, a4, if_pos b1, if_pos b2, if_pos b3, if_pos b4]
  rw [e1, Option.bind_some]
  simp only [e2, Option.bind_some, zcmp_s, if_true, eq_self]
  rw [hL_law_1498, a7]

theorem zlw_468 {w : zW} {I : zMem → Prop} (h468 : ∀ x1 x2 x3 : Int, zc32 x1 → zc32 x2 → zc32 x3 → zOp I w 153 287 [zI x1, zI x2, zI x3]) (hc : ∀ k : Int, 0 ≤ k → k < w.1 → zc32 (zR w (-1) k)) (hn : w.1 ≤ 3584) {x3 : Int} (hx : 0 ≤ x3) (hx2 : x3 + 7 ≤ w.1) {σ : zMem} (hσ : I σ) : zLaw1 w I σ 468 x3 := by
  have a1 : zar 0 x3 1 = x3 + 1 := by rw [za_0]; exact zw32_i (by omega)
  have a2 : zar 0 x3 2 = x3 + 2 := by rw [za_0]; exact zw32_i (by omega)
  have a3 : zar 0 x3 3 = x3 + 3 := by rw [za_0]; exact zw32_i (by omega)
  have a7 : zar 0 x3 7 = x3 + 7 := by rw [za_0]; exact zw32_i (by omega)
  have b1 : (0 : Int) ≤ x3 + 1 ∧ x3 + 1 < w.1 := by omega
  have b2 : (0 : Int) ≤ x3 + 2 ∧ x3 + 2 < w.1 := by omega
  have b3 : (0 : Int) ≤ x3 + 3 ∧ x3 + 3 < w.1 := by omega
  obtain ⟨r, σ1, σ2, e1, e2, hI⟩ := h468 _ _ _ (hc (x3 + 1) (by omega) (by omega)) (hc (x3 + 2) (by omega) (by omega)) (hc (x3 + 3) (by omega) (by omega)) σ hσ
  refine ⟨σ2, ?_, hI⟩
  rw [hL_law_468]
  simp only [a1, a2, a3, if_pos b1, if_pos b2, if_pos b3]
  rw [e1, Option.bind_some]
  simp only [e2, Option.bind_some, zcmp_s, if_true, eq_self]
  rw [hL_law_1498, a7]

theorem zlw_505 {w : zW} {I : zMem → Prop} (h505 : ∀ x1 x2 x3 x4 : Int, zc32 x1 → zc32 x2 → zc32 x3 → zc32 x4 → zOp I w 154 288 [zI x1, zI x2, zI x3, zI x4]) (hc : ∀ k : Int, 0 ≤ k → k < w.1 → zc32 (zR w (-1) k)) (hn : w.1 ≤ 3584) {x3 : Int} (hx : 0 ≤ x3) (hx2 : x3 + 7 ≤ w.1) {σ : zMem} (hσ : I σ) : zLaw1 w I σ 505 x3 := by
  have a1 : zar 0 x3 1 = x3 + 1 := by rw [za_0]; exact zw32_i (by omega)
  have a2 : zar 0 x3 2 = x3 + 2 := by rw [za_0]; exact zw32_i (by omega)
  have a3 : zar 0 x3 3 = x3 + 3 := by rw [za_0]; exact zw32_i (by omega)
  have a4 : zar 0 x3 4 = x3 + 4 := by rw [za_0]; exact zw32_i (by omega)
  have a7 : zar 0 x3 7 = x3 + 7 := by rw [za_0]; exact zw32_i (by omega)
  have b1 : (0 : Int) ≤ x3 + 1 ∧ x3 + 1 < w.1 := by omega
  have b2 : (0 : Int) ≤ x3 + 2 ∧ x3 + 2 < w.1 := by omega
  have b3 : (0 : Int) ≤ x3 + 3 ∧ x3 + 3 < w.1 := by omega
  have b4 : (0 : Int) ≤ x3 + 4 ∧ x3 + 4 < w.1 := by omega
  obtain ⟨r, σ1, σ2, e1, e2, hI⟩ := h505 _ _ _ _ (hc (x3 + 1) (by omega) (by omega)) (hc (x3 + 2) (by omega) (by omega)) (hc (x3 + 3) (by omega) (by omega)) (hc (x3 + 4) (by omega) (by omega)) σ hσ
  refine ⟨σ2, ?_, hI⟩
  rw [hL_law_505]
  simp only [a1, a2, a3, a4, if_pos b1, if_pos b2, if_pos b3, if_pos b4]
  rw [e1, Option.bind_some]
  simp only [e2, Option.bind_some, zcmp_s, if_true, eq_self]
  rw [hL_law_1498, a7]

theorem zlw_552 {w : zW} {I : zMem → Prop} (h552 : ∀ x1 x2 x3 x4 : Int, zc32 x1 → zc32 x2 → zc32 x3 → zc32 x4 → zOp I w 155 289 [zI x1, zI x2, zI x3, zI x4]) (hc : ∀ k : Int, 0 ≤ k → k < w.1 → zc32 (zR w (-1) k)) (hn : w.1 ≤ 3584) {x3 : Int} (hx : 0 ≤ x3) (hx2 : x3 + 7 ≤ w.1) {σ : zMem} (hσ : I σ) : zLaw1 w I σ 552 x3 := by
  have a1 : zar 0 x3 1 = x3 + 1 := by rw [za_0]; exact zw32_i (by omega)
  have a2 : zar 0 x3 2 = x3 + 2 := by rw [za_0]; exact zw32_i (by omega)
  have a3 : zar 0 x3 3 = x3 + 3 := by rw [za_0]; exact zw32_i (by omega)
  have a4 : zar 0 x3 4 = x3 + 4 := by rw [za_0]; exact zw32_i (by omega)
  have a7 : zar 0 x3 7 = x3 + 7 := by rw [za_0]; exact zw32_i (by omega)
  have b1 : (0 : Int) ≤ x3 + 1 ∧ x3 + 1 < w.1 := by omega
  have b2 : (0 : Int) ≤ x3 + 2 ∧ x3 + 2 < w.1 := by omega
  have b3 : (0 : Int) ≤ x3 + 3 ∧ x3 + 3 < w.1 := by omega
  have b4 : (0 : Int) ≤ x3 + 4 ∧ x3 + 4 < w.1 := by omega
  obtain ⟨r, σ1, σ2, e1, e2, hI⟩ := h552 _ _ _ _ (hc (x3 + 1) (by omega) (by omega)) (hc (x3 + 2) (by omega) (by omega)) (hc (x3 + 3) (by omega) (by omega)) (hc (x3 + 4) (by omega) (by omega)) σ hσ
  refine ⟨σ2, ?_, hI⟩
  rw [hL_law_552]
  simp only [a1, a2, a3, a4, if_pos b1, if_pos b2, if_pos b3, if_pos b4]
  rw [e1, Option.bind_some]
  simp only [e2, Option.bind_some, zcmp_s, if_true, eq_self]
  rw [hL_law_1498, a7]

theorem zlw_599 {w : zW} {I : zMem → Prop} (h599 : ∀ x1 x2 x3 x4 : Int, zc32 x1 → zc32 x2 → zc32 x3 → zc32 x4 → zOp I w 156 290 [zI x1, zI x2, zI x3, zI x4]) (hc : ∀ k : Int, 0 ≤ k → k < w.1 → zc32 (zR w (-1) k)) (hn : w.1 ≤ 3584) {x3 : Int} (hx : 0 ≤ x3) (hx2 : x3 + 7 ≤ w.1) {σ : zMem} (hσ : I σ) : zLaw1 w I σ 599 x3 := by
  have a1 : zar 0 x3 1 = x3 + 1 := by rw [za_0]; exact zw32_i (by omega)
  have a2 : zar 0 x3 2 = x3 + 2 := by rw [za_0]; exact zw32_i (by omega)
  have a3 : zar 0 x3 3 = x3 + 3 := by rw [za_0]; exact zw32_i (by omega)
  have a4 : zar 0 x3 4 = x3 + 4 := by rw [za_0]; exact zw32_i (by omega)
  have a7 : zar 0 x3 7 = x3 + 7 := by rw [za_0]; exact zw32_i (by omega)
  have b1 : (0 : Int) ≤ x3 + 1 ∧ x3 + 1 < w.1 := by omega
  have b2 : (0 : Int) ≤ x3 + 2 ∧ x3 + 2 < w.1 := by omega
  have b3 : (0 : Int) ≤ x3 + 3 ∧ x3 + 3 < w.1 := by omega
  have b4 : (0 : Int) ≤ x3 + 4 ∧ x3 + 4 < w.1 := by omega
  obtain ⟨r, σ1, σ2, e1, e2, hI⟩ := h599 _ _ _ _ (hc (x3 + 1) (by omega) (by omega)) (hc (x3 + 2) (by omega) (by omega)) (hc (x3 + 3) (by omega) (by omega)) (hc (x3 + 4) (by omega) (by omega)) σ hσ
  refine ⟨σ2, ?_, hI⟩
  rw [hL_law_599]
  simp only [a1, a2, a3, a4, if_pos b1, if_pos b2, if_pos b3, if_pos b4]
  rw [e1, Option.bind_some]
  simp only [e2, Option.bind_some, zcmp_s, if_true, eq_self]
  rw [hL_law_1498, a7]

theorem zlw_646 {w : zW} {I : zMem → Prop} (h646 : ∀ x1 x2 x3 x4 : Int, zc32 x1 → zc32 x2 → zc32 x3 → zc32 x4 → zOp I w 157 291 [zI x1, zI x2, zI x3, zI x4]) (hc : ∀ k : Int, 0 ≤ k → k < w.1 → zc32 (zR w (-1) k)) (hn : w.1 ≤ 3584) {x3 : Int} (hx : 0 ≤ x3) (hx2 : x3 + 7 ≤ w.1) {σ : zMem} (hσ : I σ) : zLaw1 w I σ 646 x3 := by
  have a1 : zar 0 x3 1 = x3 + 1 := by rw [za_0]; exact zw32_i (by omega)
  have a2 : zar 0 x3 2 = x3 + 2 := by rw [za_0]; exact zw32_i (by omega)
  have a3 : zar 0 x3 3 = x3 + 3 := by rw [za_0]; exact zw32_i (by omega)
  have a4 : zar 0 x3 4 = x3 + 4 := by rw [za_0]; exact zw32_i (by omega)
  have a7 : zar 0 x3 7 = x3 + 7 := by rw [za_0]; exact zw32_i (by omega)
  have b1 : (0 : Int) ≤ x3 + 1 ∧ x3 + 1 < w.1 := by omega
  have b2 : (0 : Int) ≤ x3 + 2 ∧ x3 + 2 < w.1 := by omega
  have b3 : (0 : Int) ≤ x3 + 3 ∧ x3 + 3 < w.1 := by omega
  have b4 : (0 : Int) ≤ x3 + 4 ∧ x3 + 4 < w.1 := by omega
  obtain ⟨r, σ1, σ2, e1, e2, hI⟩ := h646 _ _ _ _ (hc (x3 + 1) (by omega) (by omega)) (hc (x3 + 2) (by omega) (by omega)) (hc (x3 + 3) (by omega) (by omega)) (hc (x3 + 4) (by omega) (by omega)) σ hσ
  refine ⟨σ2, ?_, hI⟩
  rw [hL_law_646]
  simp only [a1, a2, a3, a4, if_pos b1, if_pos b2, if_pos b3, if_pos b4]
  rw [e1, Option.bind_some]
  simp only [e2, Option.bind_some, zcmp_s, if_true, eq_self]
  rw [hL_law_1498, a7]

theorem zlw_693 {w : zW} {I : zMem → Prop} (h693 : zOp I w 161 293 []) (hc : ∀ k : Int, 0 ≤ k → k < w.1 → zc32 (zR w (-1) k)) (hn : w.1 ≤ 3584) {x3 : Int} (hx : 0 ≤ x3) (hx2 : x3 + 7 ≤ w.1) {σ : zMem} (hσ : I σ) : zLaw1 w I σ 693 x3 := by
  have a7 : zar 0 x3 7 = x3 + 7 := by rw [za_0]; exact zw32_i (by omega)
  obtain ⟨r, σ1, σ2, e1, e2, hI⟩ := h693   σ hσ
  refine ⟨σ2, ?_, hI⟩
  rw [hL_law_693]
  rw [e1, Option.bind_some]
  simp only [e2, Option.bind_some, zcmp_s, if_true, eq_self]
  rw [hL_law_1498, a7]

theorem zlw_700 {w : zW} {I : zMem → Prop} (h700 : ∀ x1 x2 : Int, zc32 x1 → zc32 x2 → zOp I w 162 295 [zI x1, zI x2]) (hc : ∀ k : Int, 0 ≤ k → k < w.1 → zc32 (zR w (-1) k)) (hn : w.1 ≤ 3584) {x3 : Int} (hx : 0 ≤ x3) (hx2 : x3 + 7 ≤ w.1) {σ : zMem} (hσ : I σ) : zLaw1 w I σ 700 x3 := by
  have a1 : zar 0 x3 1 = x3 + 1 := by rw [za_0]; exact zw32_i (by omega)
  have a2 : zar 0 x3 2 = x3 + 2 := by rw [za_0]; exact zw32_i (by omega)
  have a7 : zar 0 x3 7 = x3 + 7 := by rw [za_0]; exact zw32_i (by omega)
  have b1 : (0 : Int) ≤ x3 + 1 ∧ x3 + 1 < w.1 := by omega
  have b2 : (0 : Int) ≤ x3 + 2 ∧ x3 + 2 < w.1 := by omega
  obtain ⟨r, σ1, σ2, e1, e2, hI⟩ := h700 _ _ (hc (x3 + 1) (by omega) (by omega)) (hc (x3 + 2) (by omega) (by omega)) σ hσ
  refine ⟨σ2, ?_, hI⟩
  rw [hL_law_700]
  simp only [a1, a2, if_pos b1, if_pos b2]
  rw [e1, Option.bind_some]
  simp only [e2, Option.bind_some, zcmp_s, if_true, eq_self]
  rw [hL_law_1498, a7]

theorem zlw_727 {w : zW} {I : zMem → Prop} (h727 : ∀ x1 x2 x3 x4 x5 : Int, zc32 x1 → zc32 x2 → zc32 x3 → zc32 x4 → zc32 x5 → zOp I w 163 227 [zI x1, zI x2, zI x3, zI x4, zI x5]) (hc : ∀ k : Int, 0 ≤ k → k < w.1 → zc32 (zR w (-1) k)) (hn : w.1 ≤ 3584) {x3 : Int} (hx : 0 ≤ x3) (hx2 : x3 + 7 ≤ w.1) {σ : zMem} (hσ : I σ) : zLaw1 w I σ 727 x3 := by
  have a1 : zar 0 x3 1 = x3 + 1 := by rw [za_0]; exact zw32_i (by omega)
  have a2 : zar 0 x3 2 = x3 + 2 := by rw [za_0]; exact zw32_i (by omega)
  have a3 : zar 0 x3 3 = x3 + 3 := by rw [za_0]; exact zw32_i (by omega)
  have a4 : zar 0 x3 4 = x3 + 4 := by rw [za_0]; exact zw32_i (by omega)
  have a5 : zar 0 x3 5 = x3 + 5 := by rw [za_0]; exact zw32_i (by omega)
  have a7 : zar 0 x3 7 = x3 + 7 := by rw [za_0]; exact zw32_i (by omega)
  have b1 : (0 : Int) ≤ x3 + 1 ∧ x3 + 1 < w.1 := by omega
  have b2 : (0 : Int) ≤ x3 + 2 ∧ x3 + 2 < w.1 := by omega
  have b3 : (0 : Int) ≤ x3 + 3 ∧ x3 + 3 < w.1 := by omega
  have b4 : (0 : Int) ≤ x3 + 4 ∧ x3 + 4 < w.1 := by omega
  have b5 : (0 : Int) ≤ x3 + 5 ∧ x3 + 5 < w.1 := by omega
  obtain ⟨r, σ1, σ2, e1, e2, hI⟩ := h727 _ _ _ _ _ (hc (x3 + 1) (by omega) (by omega)) (hc (x3 + 2) (by omega) (by omega)) (hc (x3 + 3) (by omega) (by omega)) (hc (x3 + 4) (by omega) (by omega)) (hc (x3 + 5) (by omega) (by omega)) σ hσ
  refine ⟨σ2, ?_, hI⟩
  rw [hL_law_727]
  simp only [a1, a2, a3, a4, a5, if_pos b1, if_pos b2, if_pos b3, if_pos b4, if_pos b5]
  rw [e1, Option.bind_some]
  simp only [e2, Option.bind_some, zcmp_s, if_true, eq_self]
  rw [hL_law_1498, a7]

theorem zlw_785 {w : zW} {I : zMem → Prop} (h785 : ∀ x1 x2 x3 x4 : Int, zc32 x1 → zc32 x2 → zc32 x3 → zc32 x4 → zOp I w 164 247 [zI x1, zI x2, zI x3, zI x4]) (hc : ∀ k : Int, 0 ≤ k → k < w.1 → zc32 (zR w (-1) k)) (hn : w.1 ≤ 3584) {x3 : Int} (hx : 0 ≤ x3) (hx2 : x3 + 7 ≤ w.1) {σ : zMem} (hσ : I σ) : zLaw1 w I σ 785 x3 := by
  have a1 : zar 0 x3 1 = x3 + 1 := by rw [za_0]; exact zw32_i (by omega)
  have a2 : zar 0 x3 2 = x3 + 2 := by rw [za_0]; exact zw32_i (by omega)
  have a3 : zar 0 x3 3 = x3 + 3 := by rw [za_0]; exact zw32_i (by omega)
  have a4 : zar 0 x3 4 = x3 + 4 := by rw [za_0]; exact zw32_i (by omega)
  have a7 : zar 0 x3 7 = x3 + 7 := by rw [za_0]; exact zw32_i (by omega)
  have b1 : (0 : Int) ≤ x3 + 1 ∧ x3 + 1 < w.1 := by omega
  have b2 : (0 : Int) ≤ x3 + 2 ∧ x3 + 2 < w.1 := by omega
  have b3 : (0 : Int) ≤ x3 + 3 ∧ x3 + 3 < w.1 := by omega
  have b4 : (0 : Int) ≤ x3 + 4 ∧ x3 + 4 < w.1 := by omega
  obtain ⟨r, σ1, σ2, e1, e2, hI⟩ := h785 _ _ _ _ (hc (x3 + 1) (by omega) (by omega)) (hc (x3 + 2) (by omega) (by omega)) (hc (x3 + 3) (by omega) (by omega)) (hc (x3 + 4) (by omega) (by omega)) σ hσ
  refine ⟨σ2, ?_, hI⟩
  rw [hL_law_785]
  simp only [a1, a2, a3, a4, if_pos b1, if_pos b2, if_pos b3, if_pos b4]
  rw [e1, Option.bind_some]
  simp only [e2, Option.bind_some, zcmp_s, if_true, eq_self]
  rw [hL_law_1498, a7]

theorem zlw_833 {w : zW} {I : zMem → Prop} (h833 : ∀ x1 x2 : Int, zc32 x1 → zc32 x2 → zOp I w 165 250 [zI x1, zI x2]) (hc : ∀ k : Int, 0 ≤ k → k < w.1 → zc32 (zR w (-1) k)) (hn : w.1 ≤ 3584) {x3 : Int} (hx : 0 ≤ x3) (hx2 : x3 + 7 ≤ w.1) {σ : zMem} (hσ : I σ) : zLaw1 w I σ 833 x3 := by
  have a1 : zar 0 x3 1 = x3 + 1 := by rw [za_0]; exact zw32_i (by omega)
  have a2 : zar 0 x3 2 = x3 + 2 := by rw [za_0]; exact zw32_i (by omega)
  have a7 : zar 0 x3 7 = x3 + 7 := by rw [za_0]; exact zw32_i (by omega)
  have b1 : (0 : Int) ≤ x3 + 1 ∧ x3 + 1 < w.1 := by omega
  have b2 : (0 : Int) ≤ x3 + 2 ∧ x3 + 2 < w.1 := by omega
  obtain ⟨r, σ1, σ2, e1, e2, hI⟩ := h833 _ _ (hc (x3 + 1) (by omega) (by omega)) (hc (x3 + 2) (by omega) (by omega)) σ hσ
  refine ⟨σ2, ?_, hI⟩
  rw [hL_law_833]
  simp only [a1, a2, if_pos b1, if_pos b2]
  rw [e1, Option.bind_some]
  simp only [e2, Option.bind_some, zcmp_s, if_true, eq_self]
  rw [hL_law_1498, a7]

theorem zlw_860 {w : zW} {I : zMem → Prop} (h860 : ∀ x1 x2 : Int, zc32 x1 → zc32 x2 → zOp I w 166 252 [zI x1, zI x2]) (hc : ∀ k : Int, 0 ≤ k → k < w.1 → zc32 (zR w (-1) k)) (hn : w.1 ≤ 3584) {x3 : Int} (hx : 0 ≤ x3) (hx2 : x3 + 7 ≤ w.1) {σ : zMem} (hσ : I σ) : zLaw1 w I σ 860 x3 := by
  have a1 : zar 0 x3 1 = x3 + 1 := by rw [za_0]; exact zw32_i (by omega)
  have a2 : zar 0 x3 2 = x3 + 2 := by rw [za_0]; exact zw32_i (by omega)
  have a7 : zar 0 x3 7 = x3 + 7 := by rw [za_0]; exact zw32_i (by omega)
  have b1 : (0 : Int) ≤ x3 + 1 ∧ x3 + 1 < w.1 := by omega
  have b2 : (0 : Int) ≤ x3 + 2 ∧ x3 + 2 < w.1 := by omega
  obtain ⟨r, σ1, σ2, e1, e2, hI⟩ := h860 _ _ (hc (x3 + 1) (by omega) (by omega)) (hc (x3 + 2) (by omega) (by omega)) σ hσ
  refine ⟨σ2, ?_, hI⟩
  rw [hL_law_860]
  simp only [a1, a2, if_pos b1, if_pos b2]
  rw [e1, Option.bind_some]
  simp only [e2, Option.bind_some, zcmp_s, if_true, eq_self]
  rw [hL_law_1498, a7]

theorem zlw_887 {w : zW} {I : zMem → Prop} (h887 : ∀ x1 x2 : Int, zc32 x1 → zc32 x2 → zOp I w 167 253 [zI x1, zI x2]) (hc : ∀ k : Int, 0 ≤ k → k < w.1 → zc32 (zR w (-1) k)) (hn : w.1 ≤ 3584) {x3 : Int} (hx : 0 ≤ x3) (hx2 : x3 + 7 ≤ w.1) {σ : zMem} (hσ : I σ) : zLaw1 w I σ 887 x3 := by
  have a1 : zar 0 x3 1 = x3 + 1 := by rw [za_0]; exact zw32_i (by omega)
  have a2 : zar 0 x3 2 = x3 + 2 := by rw [za_0]; exact zw32_i (by omega)
  have a7 : zar 0 x3 7 = x3 + 7 := by rw [za_0]; exact zw32_i (by omega)
  have b1 : (0 : Int) ≤ x3 + 1 ∧ x3 + 1 < w.1 := by omega
  have b2 : (0 : Int) ≤ x3 + 2 ∧ x3 + 2 < w.1 := by omega
  obtain ⟨r, σ1, σ2, e1, e2, hI⟩ := h887 _ _ (hc (x3 + 1) (by omega) (by omega)) (hc (x3 + 2) (by omega) (by omega)) σ hσ
  refine ⟨σ2, ?_, hI⟩
  rw [hL_law_887]
  simp only [a1, a2, if_pos b1, if_pos b2]
  rw [e1, Option.bind_some]
  simp only [e2, Option.bind_some, zcmp_s, if_true, eq_self]
  rw [hL_law_1498, a7]

theorem zlw_914 {w : zW} {I : zMem → Prop} (h914 : ∀ x1 x2 x3 : Int, zc32 x1 → zc32 x2 → zc32 x3 → zOp I w 168 255 [zI x1, zI x2, zI x3]) (hc : ∀ k : Int, 0 ≤ k → k < w.1 → zc32 (zR w (-1) k)) (hn : w.1 ≤ 3584) {x3 : Int} (hx : 0 ≤ x3) (hx2 : x3 + 7 ≤ w.1) {σ : zMem} (hσ : I σ) : zLaw1 w I σ 914 x3 := by
  have a1 : zar 0 x3 1 = x3 + 1 := by rw [za_0]; exact zw32_i (by omega)
  have a2 : zar 0 x3 2 = x3 + 2 := by rw [za_0]; exact zw32_i (by omega)
  have a3 : zar 0 x3 3 = x3 + 3 := by rw [za_0]; exact zw32_i (by omega)
  have a7 : zar 0 x3 7 = x3 + 7 := by rw [za_0]; exact zw32_i (by omega)
  have b1 : (0 : Int) ≤ x3 + 1 ∧ x3 + 1 < w.1 := by omega
  have b2 : (0 : Int) ≤ x3 + 2 ∧ x3 + 2 < w.1 := by omega
  have b3 : (0 : Int) ≤ x3 + 3 ∧ x3 + 3 < w.1 := by omega
  obtain ⟨r, σ1, σ2, e1, e2, hI⟩ := h914 _ _ _ (hc (x3 + 1) (by omega) (by omega)) (hc (x3 + 2) (by omega) (by omega)) (hc (x3 + 3) (by omega) (by omega)) σ hσ
  refine ⟨σ2, ?_, hI⟩
  rw [hL_law_914]
  simp only [a1, a2, a3, if_pos b1, if_pos b2, if_pos b3]
  rw [e1, Option.bind_some]
  simp only [e2, Option.bind_some, zcmp_s, if_true, eq_self]
  rw [hL_law_1498, a7]

theorem zlw_951 {w : zW} {I : zMem → Prop} (h951 : ∀ x1 x2 x3 : Int, zc32 x1 → zc32 x2 → zc32 x3 → zOp I w 169 256 [zI x1, zI x2, zI x3]) (hc : ∀ k : Int, 0 ≤ k → k < w.1 → zc32 (zR w (-1) k)) (hn : w.1 ≤ 3584) {x3 : Int} (hx : 0 ≤ x3) (hx2 : x3 + 7 ≤ w.1) {σ : zMem} (hσ : I σ) : zLaw1 w I σ 951 x3 := by
  have a1 : zar 0 x3 1 = x3 + 1 := by rw [za_0]; exact zw32_i (by omega)
  have a2 : zar 0 x3 2 = x3 + 2 := by rw [za_0]; exact zw32_i (by omega)
  have a3 : zar 0 x3 3 = x3 + 3 := by rw [za_0]; exact zw32_i (by omega)
  have a7 : zar 0 x3 7 = x3 + 7 := by rw [za_0]; exact zw32_i (by omega)
  have b1 : (0 : Int) ≤ x3 + 1 ∧ x3 + 1 < w.1 := by omega
  have b2 : (0 : Int) ≤ x3 + 2 ∧ x3 + 2 < w.1 := by omega
  have b3 : (0 : Int) ≤ x3 + 3 ∧ x3 + 3 < w.1 := by omega
  obtain ⟨r, σ1, σ2, e1, e2, hI⟩ := h951 _ _ _ (hc (x3 + 1) (by omega) (by omega)) (hc (x3 + 2) (by omega) (by omega)) (hc (x3 + 3) (by omega) (by omega)) σ hσ
  refine ⟨σ2, ?_, hI⟩
  rw [hL_law_951]
  simp only [a1, a2, a3, if_pos b1, if_pos b2, if_pos b3]
  rw [e1, Option.bind_some]
  simp only [e2, Option.bind_some, zcmp_s, if_true, eq_self]
  rw [hL_law_1498, a7]

theorem zlw_988 {w : zW} {I : zMem → Prop} (h988 : ∀ x1 x2 x3 x4 x5 x6 : Int, zc32 x1 → zc32 x2 → zc32 x3 → zc32 x4 → zc32 x5 → zc32 x6 → zOp I w 170 257 [zI x1, zI x2, zI x3, zI x4, zI x5, zI x6]) (hc : ∀ k : Int, 0 ≤ k → k < w.1 → zc32 (zR w (-1) k)) (hn : w.1 ≤ 3584) {x3 : Int} (hx : 0 ≤ x3) (hx2 : x3 + 7 ≤ w.1) {σ : zMem} (hσ : I σ) : zLaw1 w I σ 988 x3 := by
  have a1 : zar 0 x3 1 = x3 + 1 := by rw [za_0]; exact zw32_i (by omega)
  have a2 : zar 0 x3 2 = x3 + 2 := by rw [za_0]; exact zw32_i (by omega)
  have a3 : zar 0 x3 3 = x3 + 3 := by rw [za_0]; exact zw32_i (by omega)
  have a4 : zar 0 x3 4 = x3 + 4 := by rw [za_0]; exact zw32_i (by omega)
  have a5 : zar 0 x3 5 = x3 + 5 := by rw [za_0]; exact zw32_i (by omega)
  have a6 : zar 0 x3 6 = x3 + 6 := by rw [za_0]; exact zw32_i (by omega)
  have a7 : zar 0 x3 7 = x3 + 7 := by rw [za_0]; exact zw32_i (by omega)
  have b1 : (0 : Int) ≤ x3 + 1 ∧ x3 + 1 < w.1 := by omega
  have b2 : (0 : Int) ≤ x3 + 2 ∧ x3 + 2 < w.1 := by omega
  have b3 : (0 : Int) ≤ x3 + 3 ∧ x3 + 3 < w.1 := by omega
  have b4 : (0 : Int) ≤ x3 + 4 ∧ x3 + 4 < w.1 := by omega
  have b5 : (0 : Int) ≤ x3 + 5 ∧ x3 + 5 < w.1 := by omega
  have b6 : (0 : Int) ≤ x3 + 6 ∧ x3 + 6 < w.1 := by omega
  obtain ⟨r, σ1, σ2, e1, e2, hI⟩ := h988 _ _ _ _ _ _ (hc (x3 + 1) (by omega) (by omega)) (hc (x3 + 2) (by omega) (by omega)) (hc (x3 + 3) (by omega) (by omega)) (hc (x3 + 4) (by omega) (by omega)) (hc (x3 + 5) (by omega) (by omega)) (hc (x3 + 6) (by omega) (by omega)) σ hσ
  refine ⟨σ2, ?_, hI⟩
  rw [hL_law_988]
  simp only [a1, a2, a3, a4, a5, a6, if_pos b1, if_pos b2, if_pos b3, if_pos b4, if_pos b5, if_pos b6]
  rw [e1, Option.bind_some]
  simp only [e2, Option.bind_some, zcmp_s, if_true, eq_self]
  rw [hL_law_1498, a7]

theorem zlw_1055 {w : zW} {I : zMem → Prop} (h1055 : ∀ x1 : Int, zc32 x1 → zOp I w 171 262 [zI x1]) (hc : ∀ k : Int, 0 ≤ k → k < w.1 → zc32 (zR w (-1) k)) (hn : w.1 ≤ 3584) {x3 : Int} (hx : 0 ≤ x3) (hx2 : x3 + 7 ≤ w.1) {σ : zMem} (hσ : I σ) : zLaw1 w I σ 1055 x3 := by
  have a1 : zar 0 x3 1 = x3 + 1 := by rw [za_0]; exact zw32_i (by omega)
  have a7 : zar 0 x3 7 = x3 + 7 := by rw [za_0]; exact zw32_i (by omega)
  have b1 : (0 : Int) ≤ x3 + 1 ∧ x3 + 1 < w.1 := by omega
  obtain ⟨r, σ1, σ2, e1, e2, hI⟩ := h1055 _ (hc (x3 + 1) (by omega) (by omega)) σ hσ
  refine ⟨σ2, ?_, hI⟩
  rw [hL_law_1055]
  simp only [a1, if_pos b1]
  rw [e1, Option.bind_some]
  simp only [e2, Option.bind_some, zcmp_s, if_true, eq_self]
  rw [hL_law_1498, a7]

theorem zlw_1072 {w : zW} {I : zMem → Prop} (h1072 : ∀ x1 x2 : Int, zc32 x1 → zc32 x2 → zOp I w 172 263 [zI x1, zI x2]) (hc : ∀ k : Int, 0 ≤ k → k < w.1 → zc32 (zR w (-1) k)) (hn : w.1 ≤ 3584) {x3 : Int} (hx : 0 ≤ x3) (hx2 : x3 + 7 ≤ w.1) {σ : zMem} (hσ : I σ) : zLaw1 w I σ 1072 x3 := by
  have a1 : zar 0 x3 1 = x3 + 1 := by rw [za_0]; exact zw32_i (by omega)
  have a2 : zar 0 x3 2 = x3 + 2 := by rw [za_0]; exact zw32_i (by omega)
  have a7 : zar 0 x3 7 = x3 + 7 := by rw [za_0]; exact zw32_i (by omega)
  have b1 : (0 : Int) ≤ x3 + 1 ∧ x3 + 1 < w.1 := by omega
  have b2 : (0 : Int) ≤ x3 + 2 ∧ x3 + 2 < w.1 := by omega
  obtain ⟨r, σ1, σ2, e1, e2, hI⟩ := h1072 _ _ (hc (x3 + 1) (by omega) (by omega)) (hc (x3 + 2) (by omega) (by omega)) σ hσ
  refine ⟨σ2, ?_, hI⟩
  rw [hL_law_1072]
  simp only [a1, a2, if_pos b1, if_pos b2]
  rw [e1, Option.bind_some]
  simp only [e2, Option.bind_some, zcmp_s, if_true, eq_self]
  rw [hL_law_1498, a7]

theorem zlw_1099 {w : zW} {I : zMem → Prop} (h1099 : ∀ x1 x2 : Int, zc32 x1 → zc32 x2 → zOp I w 174 265 [zI x1, zI x2]) (hc : ∀ k : Int, 0 ≤ k → k < w.1 → zc32 (zR w (-1) k)) (hn : w.1 ≤ 3584) {x3 : Int} (hx : 0 ≤ x3) (hx2 : x3 + 7 ≤ w.1) {σ : zMem} (hσ : I σ) : zLaw1 w I σ 1099 x3 := by
  have a1 : zar 0 x3 1 = x3 + 1 := by rw [za_0]; exact zw32_i (by omega)
  have a2 : zar 0 x3 2 = x3 + 2 := by rw [za_0]; exact zw32_i (by omega)
  have a7 : zar 0 x3 7 = x3 + 7 := by rw [za_0]; exact zw32_i (by omega)
  have b1 : (0 : Int) ≤ x3 + 1 ∧ x3 + 1 < w.1 := by omega
  have b2 : (0 : Int) ≤ x3 + 2 ∧ x3 + 2 < w.1 := by omega
  obtain ⟨r, σ1, σ2, e1, e2, hI⟩ := h1099 _ _ (hc (x3 + 1) (by omega) (by omega)) (hc (x3 + 2) (by omega) (by omega)) σ hσ
  refine ⟨σ2, ?_, hI⟩
  rw [hL_law_1099]
  simp only [a1, a2, if_pos b1, if_pos b2]
  rw [e1, Option.bind_some]
  simp only [e2, Option.bind_some, zcmp_s, if_true, eq_self]
  rw [hL_law_1498, a7]

theorem zlw_1126 {w : zW} {I : zMem → Prop} (h1126 : ∀ x1 x2 : Int, zc32 x1 → zc32 x2 → zOp I w 175 266 [zI x1, zI x2]) (hc : ∀ k : Int, 0 ≤ k → k < w.1 → zc32 (zR w (-1) k)) (hn : w.1 ≤ 3584) {x3 : Int} (hx : 0 ≤ x3) (hx2 : x3 + 7 ≤ w.1) {σ : zMem} (hσ : I σ) : zLaw1 w I σ 1126 x3 := by
  have a1 : zar 0 x3 1 = x3 + 1 := by rw [za_0]; exact zw32_i (by omega)
  have a2 : zar 0 x3 2 = x3 + 2 := by rw [za_0]; exact zw32_i (by omega)
  have a7 : zar 0 x3 7 = x3 + 7 := by rw [za_0]; exact zw32_i (by omega)
  have b1 : (0 : Int) ≤ x3 + 1 ∧ x3 + 1 < w.1 := by omega
  have b2 : (0 : Int) ≤ x3 + 2 ∧ x3 + 2 < w.1 := by omega
  obtain ⟨r, σ1, σ2, e1, e2, hI⟩ := h1126 _ _ (hc (x3 + 1) (by omega) (by omega)) (hc (x3 + 2) (by omega) (by omega)) σ hσ
  refine ⟨σ2, ?_, hI⟩
  rw [hL_law_1126]
  simp only [a1, a2, if_pos b1, if_pos b2]
  rw [e1, Option.bind_some]
  simp only [e2, Option.bind_some, zcmp_s, if_true, eq_self]
  rw [hL_law_1498, a7]

theorem zlw_1153 {w : zW} {I : zMem → Prop} (h1153 : ∀ x1 x2 : Int, zc32 x1 → zc32 x2 → zOp I w 173 268 [zI x1, zI x2]) (hc : ∀ k : Int, 0 ≤ k → k < w.1 → zc32 (zR w (-1) k)) (hn : w.1 ≤ 3584) {x3 : Int} (hx : 0 ≤ x3) (hx2 : x3 + 7 ≤ w.1) {σ : zMem} (hσ : I σ) : zLaw1 w I σ 1153 x3 := by
  have a1 : zar 0 x3 1 = x3 + 1 := by rw [za_0]; exact zw32_i (by omega)
  have a2 : zar 0 x3 2 = x3 + 2 := by rw [za_0]; exact zw32_i (by omega)
  have a7 : zar 0 x3 7 = x3 + 7 := by rw [za_0]; exact zw32_i (by omega)
  have b1 : (0 : Int) ≤ x3 + 1 ∧ x3 + 1 < w.1 := by omega
  have b2 : (0 : Int) ≤ x3 + 2 ∧ x3 + 2 < w.1 := by omega
  obtain ⟨r, σ1, σ2, e1, e2, hI⟩ := h1153 _ _ (hc (x3 + 1) (by omega) (by omega)) (hc (x3 + 2) (by omega) (by omega)) σ hσ
  refine ⟨σ2, ?_, hI⟩
  rw [hL_law_1153]
  simp only [a1, a2, if_pos b1, if_pos b2]
  rw [e1, Option.bind_some]
  simp only [e2, Option.bind_some, zcmp_s, if_true, eq_self]
  rw [hL_law_1498, a7]

theorem zlw_1180 {w : zW} {I : zMem → Prop} (h1180 : ∀ x1 x2 x3 : Int, zc32 x1 → zc32 x2 → zc32 x3 → zOp I w 176 270 [zI x1, zI x2, zI x3]) (hc : ∀ k : Int, 0 ≤ k → k < w.1 → zc32 (zR w (-1) k)) (hn : w.1 ≤ 3584) {x3 : Int} (hx : 0 ≤ x3) (hx2 : x3 + 7 ≤ w.1) {σ : zMem} (hσ : I σ) : zLaw1 w I σ 1180 x3 := by
  have a1 : zar 0 x3 1 = x3 + 1 := by rw [za_0]; exact zw32_i (by omega)
  have a2 : zar 0 x3 2 = x3 + 2 := by rw [za_0]; exact zw32_i (by omega)
  have a3 : zar 0 x3 3 = x3 + 3 := by rw [za_0]; exact zw32_i (by omega)
  have a7 : zar 0 x3 7 = x3 + 7 := by rw [za_0]; exact zw32_i (by omega)
  have b1 : (0 : Int) ≤ x3 + 1 ∧ x3 + 1 < w.1 := by omega
  have b2 : (0 : Int) ≤ x3 + 2 ∧ x3 + 2 < w.1 := by omega
  have b3 : (0 : Int) ≤ x3 + 3 ∧ x3 + 3 < w.1 := by omega
  obtain ⟨r, σ1, σ2, e1, e2, hI⟩ := h1180 _ _ _ (hc (x3 + 1) (by omega) (by omega)) (hc (x3 + 2) (by omega) (by omega)) (hc (x3 + 3) (by omega) (by omega)) σ hσ
  refine ⟨σ2, ?_, hI⟩
  rw [hL_law_1180]
  simp only [a1, a2, a3, if_pos b1, if_pos b2, if_pos b3]
  rw [e1, Option.bind_some]
  simp only [e2, Option.bind_some, zcmp_s, if_true, eq_self]
  rw [hL_law_1498, a7]

theorem zlw_1217 {w : zW} {I : zMem → Prop} (h1217 : ∀ x1 x2 x3 x4 : Int, zc32 x1 → zc32 x2 → zc32 x3 → zc32 x4 → zOp I w 178 273 [zI x1, zI x2, zI x3, zI x4]) (hc : ∀ k : Int, 0 ≤ k → k < w.1 → zc32 (zR w (-1) k)) (hn : w.1 ≤ 3584) {x3 : Int} (hx : 0 ≤ x3) (hx2 : x3 + 7 ≤ w.1) {σ : zMem} (hσ : I σ) : zLaw1 w I σ 1217 x3 := by
  have a1 : zar 0 x3 1 = x3 + 1 := by rw [za_0]; exact zw32_i (by omega)
  have a2 : zar 0 x3 2 = x3 + 2 := by rw [za_0]; exact zw32_i (by omega)
  have a3 : zar 0 x3 3 = x3 + 3 := by rw [za_0]; exact zw32_i (by omega)
  have a4 : zar 0 x3 4 = x3 + 4 := by rw [za_0]; exact zw32_i (by omega)
  have a7 : zar 0 x3 7 = x3 + 7 := by rw [za_0]; exact zw32_i (by omega)
  have b1 : (0 : Int) ≤ x3 + 1 ∧ x3 + 1 < w.1 := by omega
  have b2 : (0 : Int) ≤ x3 + 2 ∧ x3 + 2 < w.1 := by omega
  have b3 : (0 : Int) ≤ x3 + 3 ∧ x3 + 3 < w.1 := by omega
  have b4 : (0 : Int) ≤ x3 + 4 ∧ x3 + 4 < w.1 := by omega
  obtain ⟨r, σ1, σ2, e1, e2, hI⟩ := h1217 _ _ _ _ (hc (x3 + 1) (by omega) (by omega)) (hc (x3 + 2) (by omega) (by omega)) (hc (x3 + 3) (by omega) (by omega)) (hc (x3 + 4) (by omega) (by omega)) σ hσ
  refine ⟨σ2, ?_, hI⟩
  rw [hL_law_1217]
  simp only [a1, a2, a3, a4, if_pos b1, if_pos b2, if_pos b3, if_pos b4]
  rw [e1, Option.bind_some]
  simp only [e2, Option.bind_some, zcmp_s, if_true, eq_self]
  rw [hL_law_1498, a7]

theorem zlw_1264 {w : zW} {I : zMem → Prop} (h1264 : ∀ x1 x2 x3 x4 : Int, zc32 x1 → zc32 x2 → zc32 x3 → zc32 x4 → zOp I w 180 321 [zI x1, zI x2, zI x3, zI x4]) (hc : ∀ k : Int, 0 ≤ k → k < w.1 → zc32 (zR w (-1) k)) (hn : w.1 ≤ 3584) {x3 : Int} (hx : 0 ≤ x3) (hx2 : x3 + 7 ≤ w.1) {σ : zMem} (hσ : I σ) : zLaw1 w I σ 1264 x3 := by
  have a1 : zar 0 x3 1 = x3 + 1 := by rw [za_0]; exact zw32_i (by omega)
  have a2 : zar 0 x3 2 = x3 + 2 := by rw [za_0]; exact zw32_i (by omega)
  have a3 : zar 0 x3 3 = x3 + 3 := by rw [za_0]; exact zw32_i (by omega)
  have a4 : zar 0 x3 4 = x3 + 4 := by rw [za_0]; exact zw32_i (by omega)
  have a7 : zar 0 x3 7 = x3 + 7 := by rw [za_0]; exact zw32_i (by omega)
  have b1 : (0 : Int) ≤ x3 + 1 ∧ x3 + 1 < w.1 := by omega
  have b2 : (0 : Int) ≤ x3 + 2 ∧ x3 + 2 < w.1 := by omega
  have b3 : (0 : Int) ≤ x3 + 3 ∧ x3 + 3 < w.1 := by omega
  have b4 : (0 : Int) ≤ x3 + 4 ∧ x3 + 4 < w.1 := by omega
  obtain ⟨r, σ1, σ2, e1, e2, hI⟩ := h1264 _ _ _ _ (hc (x3 + 1) (by omega) (by omega)) (hc (x3 + 2) (by omega) (by omega)) (hc (x3 + 3) (by omega) (by omega)) (hc (x3 + 4) (by omega) (by omega)) σ hσ
  refine ⟨σ2, ?_, hI⟩
  rw [hL_law_1264]
  simp only [a1, a2, a3, a4, if_pos b1, if_pos b2, if_pos b3, if_pos b4]
  rw [e1, Option.bind_some]
  simp only [e2, Option.bind_some, zcmp_s, if_true, eq_self]
  rw [hL_law_1498, a7]

theorem zlw_1311 {w : zW} {I : zMem → Prop} (h1311 : ∀ x1 x2 x3 : Int, zc32 x1 → zc32 x2 → zc32 x3 → zOp I w 183 322 [zI x1, zI x2, zI x3]) (hc : ∀ k : Int, 0 ≤ k → k < w.1 → zc32 (zR w (-1) k)) (hn : w.1 ≤ 3584) {x3 : Int} (hx : 0 ≤ x3) (hx2 : x3 + 7 ≤ w.1) {σ : zMem} (hσ : I σ) : zLaw1 w I σ 1311 x3 := by
  have a1 : zar 0 x3 1 = x3 + 1 := by rw [za_0]; exact zw32_i (by omega)
  have a2 : zar 0 x3 2 = x3 + 2 := by rw [za_0]; exact zw32_i (by omega)
  have a3 : zar 0 x3 3 = x3 + 3 := by rw [za_0]; exact zw32_i (by omega)
  have a7 : zar 0 x3 7 = x3 + 7 := by rw [za_0]; exact zw32_i (by omega)
  have b1 : (0 : Int) ≤ x3 + 1 ∧ x3 + 1 < w.1 := by omega
  have b2 : (0 : Int) ≤ x3 + 2 ∧ x3 + 2 < w.1 := by omega
  have b3 : (0 : Int) ≤ x3 + 3 ∧ x3 + 3 < w.1 := by omega
  obtain ⟨r, σ1, σ2, e1, e2, hI⟩ := h1311 _ _ _ (hc (x3 + 1) (by omega) (by omega)) (hc (x3 + 2) (by omega) (by omega)) (hc (x3 + 3) (by omega) (by omega)) σ hσ
  refine ⟨σ2, ?_, hI⟩
  rw [hL_law_1311]
  simp only [a1, a2, a3, if_pos b1, if_pos b2, if_pos b3]
  rw [e1, Option.bind_some]
  simp only [e2, Option.bind_some, zcmp_s, if_true, eq_self]
  rw [hL_law_1498, a7]

theorem zlw_1348 {w : zW} {I : zMem → Prop} (h1348 : ∀ x1 x2 : Int, zc32 x1 → zc32 x2 → zOp I w 184 324 [zI x1, zI x2]) (hc : ∀ k : Int, 0 ≤ k → k < w.1 → zc32 (zR w (-1) k)) (hn : w.1 ≤ 3584) {x3 : Int} (hx : 0 ≤ x3) (hx2 : x3 + 7 ≤ w.1) {σ : zMem} (hσ : I σ) : zLaw1 w I σ 1348 x3 := by
  have a1 : zar 0 x3 1 = x3 + 1 := by rw [za_0]; exact zw32_i (by omega)
  have a2 : zar 0 x3 2 = x3 + 2 := by rw [za_0]; exact zw32_i (by omega)
  have a7 : zar 0 x3 7 = x3 + 7 := by rw [za_0]; exact zw32_i (by omega)
  have b1 : (0 : Int) ≤ x3 + 1 ∧ x3 + 1 < w.1 := by omega
  have b2 : (0 : Int) ≤ x3 + 2 ∧ x3 + 2 < w.1 := by omega
  obtain ⟨r, σ1, σ2, e1, e2, hI⟩ := h1348 _ _ (hc (x3 + 1) (by omega) (by omega)) (hc (x3 + 2) (by omega) (by omega)) σ hσ
  refine ⟨σ2, ?_, hI⟩
  rw [hL_law_1348]
  simp only [a1, a2, if_pos b1, if_pos b2]
  rw [e1, Option.bind_some]
  simp only [e2, Option.bind_some, zcmp_s, if_true, eq_self]
  rw [hL_law_1498, a7]

theorem zlw_1375 {w : zW} {I : zMem → Prop} (h1375 : zOp I w 185 325 []) (hc : ∀ k : Int, 0 ≤ k → k < w.1 → zc32 (zR w (-1) k)) (hn : w.1 ≤ 3584) {x3 : Int} (hx : 0 ≤ x3) (hx2 : x3 + 7 ≤ w.1) {σ : zMem} (hσ : I σ) : zLaw1 w I σ 1375 x3 := by
  have a7 : zar 0 x3 7 = x3 + 7 := by rw [za_0]; exact zw32_i (by omega)
  obtain ⟨r, σ1, σ2, e1, e2, hI⟩ := h1375   σ hσ
  refine ⟨σ2, ?_, hI⟩
  rw [hL_law_1375]
  rw [e1, Option.bind_some]
  simp only [e2, Option.bind_some, zcmp_s, if_true, eq_self]
  rw [hL_law_1498, a7]

theorem zlw_1382 {w : zW} {I : zMem → Prop} (h1382 : ∀ x1 : Int, zc32 x1 → zOp I w 186 327 [zI x1]) (hc : ∀ k : Int, 0 ≤ k → k < w.1 → zc32 (zR w (-1) k)) (hn : w.1 ≤ 3584) {x3 : Int} (hx : 0 ≤ x3) (hx2 : x3 + 7 ≤ w.1) {σ : zMem} (hσ : I σ) : zLaw1 w I σ 1382 x3 := by
  have a1 : zar 0 x3 1 = x3 + 1 := by rw [za_0]; exact zw32_i (by omega)
  have a7 : zar 0 x3 7 = x3 + 7 := by rw [za_0]; exact zw32_i (by omega)
  have b1 : (0 : Int) ≤ x3 + 1 ∧ x3 + 1 < w.1 := by omega
  obtain ⟨r, σ1, σ2, e1, e2, hI⟩ := h1382 _ (hc (x3 + 1) (by omega) (by omega)) σ hσ
  refine ⟨σ2, ?_, hI⟩
  rw [hL_law_1382]
  simp only [a1, if_pos b1]
  rw [e1, Option.bind_some]
  simp only [e2, Option.bind_some, zcmp_s, if_true, eq_self]
  rw [hL_law_1498, a7]

theorem zlw_1399 {w : zW} {I : zMem → Prop} (h1399 : ∀ x1 : Int, zc32 x1 → zOp I w 187 328 [zI x1]) (hc : ∀ k : Int, 0 ≤ k → k < w.1 → zc32 (zR w (-1) k)) (hn : w.1 ≤ 3584) {x3 : Int} (hx : 0 ≤ x3) (hx2 : x3 + 7 ≤ w.1) {σ : zMem} (hσ : I σ) : zLaw1 w I σ 1399 x3 := by
  have a1 : zar 0 x3 1 = x3 + 1 := by rw [za_0]; exact zw32_i (by omega)
  have a7 : zar 0 x3 7 = x3 + 7 := by rw [za_0]; exact zw32_i (by omega)
  have b1 : (0 : Int) ≤ x3 + 1 ∧ x3 + 1 < w.1 := by omega
  obtain ⟨r, σ1, σ2, e1, e2, hI⟩ := h1399 _ (hc (x3 + 1) (by omega) (by omega)) σ hσ
  refine ⟨σ2, ?_, hI⟩
  rw [hL_law_1399]
  simp only [a1, if_pos b1]
  rw [e1, Option.bind_some]
  simp only [e2, Option.bind_some, zcmp_s, if_true, eq_self]
  rw [hL_law_1498, a7]

theorem zlw_1416 {w : zW} {I : zMem → Prop} (h1416 : ∀ x1 : Int, zc32 x1 → zOp I w 188 329 [zI x1]) (hc : ∀ k : Int, 0 ≤ k → k < w.1 → zc32 (zR w (-1) k)) (hn : w.1 ≤ 3584) {x3 : Int} (hx : 0 ≤ x3) (hx2 : x3 + 7 ≤ w.1) {σ : zMem} (hσ : I σ) : zLaw1 w I σ 1416 x3 := by
  have a1 : zar 0 x3 1 = x3 + 1 := by rw [za_0]; exact zw32_i (by omega)
  have a7 : zar 0 x3 7 = x3 + 7 := by rw [za_0]; exact zw32_i (by omega)
  have b1 : (0 : Int) ≤ x3 + 1 ∧ x3 + 1 < w.1 := by omega
  obtain ⟨r, σ1, σ2, e1, e2, hI⟩ := h1416 _ (hc (x3 + 1) (by omega) (by omega)) σ hσ
  refine ⟨σ2, ?_, hI⟩
  rw [hL_law_1416]
  simp only [a1, if_pos b1]
  rw [e1, Option.bind_some]
  simp only [e2, Option.bind_some, zcmp_s, if_true, eq_self]
  rw [hL_law_1498, a7]

theorem zlw_1433 {w : zW} {I : zMem → Prop} (h1433 : ∀ x1 : Int, zc32 x1 → zOp I w 189 331 [zI x1]) (hc : ∀ k : Int, 0 ≤ k → k < w.1 → zc32 (zR w (-1) k)) (hn : w.1 ≤ 3584) {x3 : Int} (hx : 0 ≤ x3) (hx2 : x3 + 7 ≤ w.1) {σ : zMem} (hσ : I σ) : zLaw1 w I σ 1433 x3 := by
  have a1 : zar 0 x3 1 = x3 + 1 := by rw [za_0]; exact zw32_i (by omega)
  have a7 : zar 0 x3 7 = x3 + 7 := by rw [za_0]; exact zw32_i (by omega)
  have b1 : (0 : Int) ≤ x3 + 1 ∧ x3 + 1 < w.1 := by omega
  obtain ⟨r, σ1, σ2, e1, e2, hI⟩ := h1433 _ (hc (x3 + 1) (by omega) (by omega)) σ hσ
  refine ⟨σ2, ?_, hI⟩
  rw [hL_law_1433]
  simp only [a1, if_pos b1]
  rw [e1, Option.bind_some]
  simp only [e2, Option.bind_some, zcmp_s, if_true, eq_self]
  rw [hL_law_1498, a7]

theorem zlw_1450 {w : zW} {I : zMem → Prop} (h1450 : ∀ x1 : Int, zc32 x1 → zOp I w 190 332 [zI x1]) (hc : ∀ k : Int, 0 ≤ k → k < w.1 → zc32 (zR w (-1) k)) (hn : w.1 ≤ 3584) {x3 : Int} (hx : 0 ≤ x3) (hx2 : x3 + 7 ≤ w.1) {σ : zMem} (hσ : I σ) : zLaw1 w I σ 1450 x3 := by
  have a1 : zar 0 x3 1 = x3 + 1 := by rw [za_0]; exact zw32_i (by omega)
  have a7 : zar 0 x3 7 = x3 + 7 := by rw [za_0]; exact zw32_i (by omega)
  have b1 : (0 : Int) ≤ x3 + 1 ∧ x3 + 1 < w.1 := by omega
  obtain ⟨r, σ1, σ2, e1, e2, hI⟩ := h1450 _ (hc (x3 + 1) (by omega) (by omega)) σ hσ
  refine ⟨σ2, ?_, hI⟩
  rw [hL_law_1450]
  simp only [a1, if_pos b1]
  rw [e1, Option.bind_some]
  simp only [e2, Option.bind_some, zcmp_s, if_true, eq_self]
  rw [hL_law_1498, a7]

theorem zlw_1467 {w : zW} {I : zMem → Prop} (h1467 : zOp I w 191 334 []) (hc : ∀ k : Int, 0 ≤ k → k < w.1 → zc32 (zR w (-1) k)) (hn : w.1 ≤ 3584) {x3 : Int} (hx : 0 ≤ x3) (hx2 : x3 + 7 ≤ w.1) {σ : zMem} (hσ : I σ) : zLaw1 w I σ 1467 x3 := by
  have a7 : zar 0 x3 7 = x3 + 7 := by rw [za_0]; exact zw32_i (by omega)
  obtain ⟨r, σ1, σ2, e1, e2, hI⟩ := h1467   σ hσ
  refine ⟨σ2, ?_, hI⟩
  rw [hL_law_1467]
  rw [e1, Option.bind_some]
  simp only [e2, Option.bind_some, zcmp_s, if_true, eq_self]
  rw [hL_law_1498, a7]

theorem zlw_1474 {w : zW} {I : zMem → Prop} (h1474 : zOp I w 192 335 []) (hc : ∀ k : Int, 0 ≤ k → k < w.1 → zc32 (zR w (-1) k)) (hn : w.1 ≤ 3584) {x3 : Int} (hx : 0 ≤ x3) (hx2 : x3 + 7 ≤ w.1) {σ : zMem} (hσ : I σ) : zLaw1 w I σ 1474 x3 := by
  have a7 : zar 0 x3 7 = x3 + 7 := by rw [za_0]; exact zw32_i (by omega)
  obtain ⟨r, σ1, σ2, e1, e2, hI⟩ := h1474   σ hσ
  refine ⟨σ2, ?_, hI⟩
  rw [hL_law_1474]
  rw [e1, Option.bind_some]
  simp only [e2, Option.bind_some, zcmp_s, if_true, eq_self]
  rw [hL_law_1498, a7]

theorem zlw_1481 {w : zW} {I : zMem → Prop} (h1481 : ∀ x1 : Int, zc32 x1 → zOp I w 193 337 [zI x1]) (hc : ∀ k : Int, 0 ≤ k → k < w.1 → zc32 (zR w (-1) k)) (hn : w.1 ≤ 3584) {x3 : Int} (hx : 0 ≤ x3) (hx2 : x3 + 7 ≤ w.1) {σ : zMem} (hσ : I σ) : zLaw1 w I σ 1481 x3 := by
  have a1 : zar 0 x3 1 = x3 + 1 := by rw [za_0]; exact zw32_i (by omega)
  have a7 : zar 0 x3 7 = x3 + 7 := by rw [za_0]; exact zw32_i (by omega)
  have b1 : (0 : Int) ≤ x3 + 1 ∧ x3 + 1 < w.1 := by omega
  obtain ⟨r, σ1, σ2, e1, e2, hI⟩ := h1481 _ (hc (x3 + 1) (by omega) (by omega)) σ hσ
  refine ⟨σ2, ?_, hI⟩
  rw [hL_law_1481]
  simp only [a1, if_pos b1]
  rw [e1, Option.bind_some]
  simp only [e2, Option.bind_some, zcmp_s, if_true, eq_self]
  rw [hL_law_1498, a7]

theorem zlaw_loop {w : zW} (hw : zPu w) {I : zMem → Prop} (hI0 : ∀ σ, I σ → σ 0 0 = 259)
  (h22 : ∀ x1 x2 x3 : Int, zc32 x1 → zc32 x2 → zc32 x3 → zOp I w 138 308 [zI x1, zI x2, zI x3])
  (h59 : ∀ x1 x2 v : Int, zc32 x1 → zc32 x2 → zc64 v → zOp I w 139 310 [zI x1, zI x2, zJ v])
  (h120 : ∀ x1 x2 x3 x4 x5 : Int, zc32 x1 → zc32 x2 → zc32 x3 → zc32 x4 → zc32 x5 → zOp I w 140 311 [zI x1, zI x2, zI x3, zI x4, zI x5])
  (h177 : ∀ x1 x2 : Int, zc32 x1 → zc32 x2 → zOp I w 141 312 [zI x1, zI x2])
  (h205 : ∀ x1 : Int, zc32 x1 → zOp I w 142 313 [zI x1])
  (h222 : ∀ x1 x2 : Int, zc32 x1 → zc32 x2 → zOp I w 143 314 [zI x1, zI x2])
  (h249 : ∀ x1 x2 : Int, zc32 x1 → zc32 x2 → zOp I w 144 317 [zI x1, zI x2])
  (h276 : ∀ x1 : Int, zc32 x1 → zOp I w 147 296 [zI x1])
  (h293 : zOp I w 148 297 [])
  (h300 : zOp I w 149 306 [])
  (h307 : ∀ x1 x2 x3 x4 : Int, zc32 x1 → zc32 x2 → zc32 x3 → zc32 x4 → zOp I w 150 284 [zI x1, zI x2, zI x3, zI x4])
  (h354 : ∀ x1 x2 x3 x4 x5 x6 : Int, zc32 x1 → zc32 x2 → zc32 x3 → zc32 x4 → zc32 x5 → zc32 x6 → zOp I w 151 285 [zI x1, zI x2, zI x3, zI x4, zI x5, zI x6])
  (h421 : ∀ x1 x2 x3 x4 : Int, zc32 x1 → zc32 x2 → zc32 x3 → zc32 x4 → zOp I w 152 286 [zI x1, zI x2, zI x3, zI x4])
  (h468 : ∀ x1 x2 x3 : Int, zc32 x1 → zc32 x2 → zc32 x3 → zOp I w 153 287 [zI x1, zI x2, zI x3])
  (h505 : ∀ x1 x2 x3 x4 : Int, zc32 x1 → zc32 x2 → zc32 x3 → zc32 x4 → zOp I w 154 288 [zI x1, zI x2, zI x3, zI x4])
  (h552 : ∀ x1 x2 x3 x4 : Int, zc32 x1 → zc32 x2 → zc32 x3 → zc32 x4 → zOp I w 155 289 [zI x1, zI x2, zI x3, zI x4])
  (h599 : ∀ x1 x2 x3 x4 : Int, zc32 x1 → zc32 x2 → zc32 x3 → zc32 x4 → zOp I w 156 290 [zI x1, zI x2, zI x3, zI x4])
  (h646 : ∀ x1 x2 x3 x4 : Int, zc32 x1 → zc32 x2 → zc32 x3 → zc32 x4 → zOp I w 157 291 [zI x1, zI x2, zI x3, zI x4])
  (h693 : zOp I w 161 293 [])
  (h700 : ∀ x1 x2 : Int, zc32 x1 → zc32 x2 → zOp I w 162 295 [zI x1, zI x2])
  (h727 : ∀ x1 x2 x3 x4 x5 : Int, zc32 x1 → zc32 x2 → zc32 x3 → zc32 x4 → zc32 x5 → zOp I w 163 227 [zI x1, zI x2, zI x3, zI x4, zI x5])
  (h785 : ∀ x1 x2 x3 x4 : Int, zc32 x1 → zc32 x2 → zc32 x3 → zc32 x4 → zOp I w 164 247 [zI x1, zI x2, zI x3, zI x4])
  (h833 : ∀ x1 x2 : Int, zc32 x1 → zc32 x2 → zOp I w 165 250 [zI x1, zI x2])
  (h860 : ∀ x1 x2 : Int, zc32 x1 → zc32 x2 → zOp I w 166 252 [zI x1, zI x2])
  (h887 : ∀ x1 x2 : Int, zc32 x1 → zc32 x2 → zOp I w 167 253 [zI x1, zI x2])
  (h914 : ∀ x1 x2 x3 : Int, zc32 x1 → zc32 x2 → zc32 x3 → zOp I w 168 255 [zI x1, zI x2, zI x3])
  (h951 : ∀ x1 x2 x3 : Int, zc32 x1 → zc32 x2 → zc32 x3 → zOp I w 169 256 [zI x1, zI x2, zI x3])
  (h988 : ∀ x1 x2 x3 x4 x5 x6 : Int, zc32 x1 → zc32 x2 → zc32 x3 → zc32 x4 → zc32 x5 → zc32 x6 → zOp I w 170 257 [zI x1, zI x2, zI x3, zI x4, zI x5, zI x6])
  (h1055 : ∀ x1 : Int, zc32 x1 → zOp I w 171 262 [zI x1])
  (h1072 : ∀ x1 x2 : Int, zc32 x1 → zc32 x2 → zOp I w 172 263 [zI x1, zI x2])
  (h1099 : ∀ x1 x2 : Int, zc32 x1 → zc32 x2 → zOp I w 174 265 [zI x1, zI x2])
  (h1126 : ∀ x1 x2 : Int, zc32 x1 → zc32 x2 → zOp I w 175 266 [zI x1, zI x2])
  (h1153 : ∀ x1 x2 : Int, zc32 x1 → zc32 x2 → zOp I w 173 268 [zI x1, zI x2])
  (h1180 : ∀ x1 x2 x3 : Int, zc32 x1 → zc32 x2 → zc32 x3 → zOp I w 176 270 [zI x1, zI x2, zI x3])
  (h1217 : ∀ x1 x2 x3 x4 : Int, zc32 x1 → zc32 x2 → zc32 x3 → zc32 x4 → zOp I w 178 273 [zI x1, zI x2, zI x3, zI x4])
  (h1264 : ∀ x1 x2 x3 x4 : Int, zc32 x1 → zc32 x2 → zc32 x3 → zc32 x4 → zOp I w 180 321 [zI x1, zI x2, zI x3, zI x4])
  (h1311 : ∀ x1 x2 x3 : Int, zc32 x1 → zc32 x2 → zc32 x3 → zOp I w 183 322 [zI x1, zI x2, zI x3])
  (h1348 : ∀ x1 x2 : Int, zc32 x1 → zc32 x2 → zOp I w 184 324 [zI x1, zI x2])
  (h1375 : zOp I w 185 325 [])
  (h1382 : ∀ x1 : Int, zc32 x1 → zOp I w 186 327 [zI x1])
  (h1399 : ∀ x1 : Int, zc32 x1 → zOp I w 187 328 [zI x1])
  (h1416 : ∀ x1 : Int, zc32 x1 → zOp I w 188 329 [zI x1])
  (h1433 : ∀ x1 : Int, zc32 x1 → zOp I w 189 331 [zI x1])
  (h1450 : ∀ x1 : Int, zc32 x1 → zOp I w 190 332 [zI x1])
  (h1467 : zOp I w 191 334 [])
  (h1474 : zOp I w 192 335 [])
  (h1481 : ∀ x1 : Int, zc32 x1 → zOp I w 193 337 [zI x1])
  : ∀ (n : Nat) (x3 : Int) (σ : zMem), 0 ≤ x3 → x3 ≤ 3584 → w.1 - x3 < n → I σ → ∃ σ', zden w (999 + 1) 352 10 [zA 23 w.1 (-1), zA 12 16 1, zA 13 32 209, zI x3] [] σ = some (1, σ') ∧ σ' 0 0 = 259 := by
  have hn := hw.2.1
  have hn0 := hw.1
  have hc : ∀ k : Int, 0 ≤ k → k < w.1 → zc32 (zR w (-1) k) := fun k a b => hw.2.2 k a b
  intro n
  induction n with
  | zero =>
    intro x3 σ hx hx3 hlt hI
    refine ⟨σ, ?_, hI0 σ hI⟩
    rw [hL_law_10, za_1, zw32_i (by omega), if_pos (by omega)]
  | succ n ih =>
    intro x3 σ hx hx3 hlt hI
    by_cases hq : w.1 - 7 < x3
    · refine ⟨σ, ?_, hI0 σ hI⟩
      rw [hL_law_10, za_1, zw32_i (by omega), if_pos (by omega)]
    have key : ∀ pc, zLaw1 w I σ pc x3 → ∃ σ', zden w (999 + 1) 352 pc [zA 23 w.1 (-1), zA 12 16 1, zA 13 32 209, zI x3] [] σ = some (1, σ') ∧ σ' 0 0 = 259 := by
      rintro pc ⟨σ2, e, hI2⟩
      rw [e]
      exact ih (x3 + 7) σ2 (by omega) (by omega) (by omega) hI2
    rw [hL_law_10, za_1, zw32_i (by omega), if_neg hq, if_pos (by omega)]
    generalize zar 6 (zR w (-1) x3) 63 = c
    by_cases q0 : c = 0
    · rw [if_pos q0]; exact key 22 (zlw_22 h22 hc hn hx (by omega) hI)
    rw [if_neg q0]
    by_cases q1 : c = 1
    · rw [if_pos q1]; exact key 59 (zlw_59 h59 hc hn hx (by omega) hI)
    rw [if_neg q1]
    by_cases q2 : c = 2
    · rw [if_pos q2]; exact key 120 (zlw_120 h120 hc hn hx (by omega) hI)
    rw [if_neg q2]
    by_cases q3 : c = 3
    · rw [if_pos q3]; exact key 177 (zlw_177 h177 hc hn hx (by omega) hI)
    rw [if_neg q3]
    by_cases q4 : c = 4
    · rw [if_pos q4]; exact key 205 (zlw_205 h205 hc hn hx (by omega) hI)
    rw [if_neg q4]
    by_cases q5 : c = 5
    · rw [if_pos q5]; exact key 222 (zlw_222 h222 hc hn hx (by omega) hI)
    rw [if_neg q5]
    by_cases q6 : c = 6
    · rw [if_pos q6]; exact key 249 (zlw_249 h249 hc hn hx (by omega) hI)
    rw [if_neg q6]
    by_cases q7 : c = 7
    · rw [if_pos q7]; exact key 276 (zlw_276 h276 hc hn hx (by omega) hI)
    rw [if_neg q7]
    by_cases q8 : c = 8
    · rw [if_pos q8]; exact key 293 (zlw_293 h293 hc hn hx (by omega) hI)
    rw [if_neg q8]
    by_cases q9 : c = 9
    · rw [if_pos q9]; exact key 300 (zlw_300 h300 hc hn hx (by omega) hI)
    rw [if_neg q9]
    by_cases q10 : c = 10
    · rw [if_pos q10]; exact key 307 (zlw_307 h307 hc hn hx (by omega) hI)
    rw [if_neg q10]
    by_cases q11 : c = 11
    · rw [if_pos q11]; exact key 354 (zlw_354 h354 hc hn hx (by omega) hI)
    rw [if_neg q11]
    by_cases q12 : c = 12
    · rw [if_pos q12]; exact key 421 (zlw_421 h421 hc hn hx (by omega) hI)
    rw [if_neg q12]
    by_cases q13 : c = 13
    · rw [if_pos q13]; exact key 468 (zlw_468 h468 hc hn hx (by omega) hI)
    rw [if_neg q13]
    by_cases q14 : c = 14
    · rw [if_pos q14]; exact key 505 (zlw_505 h505 hc hn hx (by omega) hI)
    rw [if_neg q14]
    by_cases q15 : c = 15
    · rw [if_pos q15]; exact key 552 (zlw_552 h552 hc hn hx (by omega) hI)
    rw [if_neg q15]
    by_cases q16 : c = 16
    · rw [if_pos q16]; exact key 599 (zlw_599 h599 hc hn hx (by omega) hI)
    rw [if_neg q16]
    by_cases q17 : c = 17
    · rw [if_pos q17]; exact key 646 (zlw_646 h646 hc hn hx (by omega) hI)
    rw [if_neg q17]
    by_cases q18 : c = 18
    · rw [if_pos q18]; exact key 693 (zlw_693 h693 hc hn hx (by omega) hI)
    rw [if_neg q18]
    by_cases q19 : c = 19
    · rw [if_pos q19]; exact key 700 (zlw_700 h700 hc hn hx (by omega) hI)
    rw [if_neg q19]
    by_cases q20 : c = 20
    · rw [if_pos q20]; exact key 727 (zlw_727 h727 hc hn hx (by omega) hI)
    rw [if_neg q20]
    by_cases q21 : c = 21
    · rw [if_pos q21]; exact key 785 (zlw_785 h785 hc hn hx (by omega) hI)
    rw [if_neg q21]
    by_cases q22 : c = 22
    · rw [if_pos q22]; exact key 833 (zlw_833 h833 hc hn hx (by omega) hI)
    rw [if_neg q22]
    by_cases q23 : c = 23
    · rw [if_pos q23]; exact key 860 (zlw_860 h860 hc hn hx (by omega) hI)
    rw [if_neg q23]
    by_cases q24 : c = 24
    · rw [if_pos q24]; exact key 887 (zlw_887 h887 hc hn hx (by omega) hI)
    rw [if_neg q24]
    by_cases q25 : c = 25
    · rw [if_pos q25]; exact key 914 (zlw_914 h914 hc hn hx (by omega) hI)
    rw [if_neg q25]
    by_cases q26 : c = 26
    · rw [if_pos q26]; exact key 951 (zlw_951 h951 hc hn hx (by omega) hI)
    rw [if_neg q26]
    by_cases q27 : c = 27
    · rw [if_pos q27]; exact key 988 (zlw_988 h988 hc hn hx (by omega) hI)
    rw [if_neg q27]
    by_cases q28 : c = 28
    · rw [if_pos q28]; exact key 1055 (zlw_1055 h1055 hc hn hx (by omega) hI)
    rw [if_neg q28]
    by_cases q29 : c = 29
    · rw [if_pos q29]; exact key 1072 (zlw_1072 h1072 hc hn hx (by omega) hI)
    rw [if_neg q29]
    by_cases q30 : c = 30
    · rw [if_pos q30]; exact key 1099 (zlw_1099 h1099 hc hn hx (by omega) hI)
    rw [if_neg q30]
    by_cases q31 : c = 31
    · rw [if_pos q31]; exact key 1126 (zlw_1126 h1126 hc hn hx (by omega) hI)
    rw [if_neg q31]
    by_cases q32 : c = 32
    · rw [if_pos q32]; exact key 1153 (zlw_1153 h1153 hc hn hx (by omega) hI)
    rw [if_neg q32]
    by_cases q33 : c = 33
    · rw [if_pos q33]; exact key 1180 (zlw_1180 h1180 hc hn hx (by omega) hI)
    rw [if_neg q33]
    by_cases q34 : c = 34
    · rw [if_pos q34]; exact key 1217 (zlw_1217 h1217 hc hn hx (by omega) hI)
    rw [if_neg q34]
    by_cases q35 : c = 35
    · rw [if_pos q35]; exact key 1264 (zlw_1264 h1264 hc hn hx (by omega) hI)
    rw [if_neg q35]
    by_cases q36 : c = 36
    · rw [if_pos q36]; exact key 1311 (zlw_1311 h1311 hc hn hx (by omega) hI)
    rw [if_neg q36]
    by_cases q37 : c = 37
    · rw [if_pos q37]; exact key 1348 (zlw_1348 h1348 hc hn hx (by omega) hI)
    rw [if_neg q37]
    by_cases q38 : c = 38
    · rw [if_pos q38]; exact key 1375 (zlw_1375 h1375 hc hn hx (by omega) hI)
    rw [if_neg q38]
    by_cases q39 : c = 39
    · rw [if_pos q39]; exact key 1382 (zlw_1382 h1382 hc hn hx (by omega) hI)
    rw [if_neg q39]
    by_cases q40 : c = 40
    · rw [if_pos q40]; exact key 1399 (zlw_1399 h1399 hc hn hx (by omega) hI)
    rw [if_neg q40]
    by_cases q41 : c = 41
    · rw [if_pos q41]; exact key 1416 (zlw_1416 h1416 hc hn hx (by omega) hI)
    rw [if_neg q41]
    by_cases q42 : c = 42
    · rw [if_pos q42]; exact key 1433 (zlw_1433 h1433 hc hn hx (by omega) hI)
    rw [if_neg q42]
    by_cases q43 : c = 43
    · rw [if_pos q43]; exact key 1450 (zlw_1450 h1450 hc hn hx (by omega) hI)
    rw [if_neg q43]
    by_cases q44 : c = 44
    · rw [if_pos q44]; exact key 1467 (zlw_1467 h1467 hc hn hx (by omega) hI)
    rw [if_neg q44]
    by_cases q45 : c = 45
    · rw [if_pos q45]; exact key 1474 (zlw_1474 h1474 hc hn hx (by omega) hI)
    rw [if_neg q45]
    by_cases q46 : c = 46
    · rw [if_pos q46]; exact key 1481 (zlw_1481 h1481 hc hn hx (by omega) hI)
    rw [if_neg q46]
    refine key 1498 ⟨σ, ?_, hI⟩
    rw [hL_law_1498, za_0, zw32_i (by omega)]

