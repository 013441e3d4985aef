/-! Rows and shelves: calls 0 to 5 -/
def yfill (σ : zMem) (o lo hi v : Int) : zMem := fun a k => if a = o ∧ lo ≤ k ∧ k < hi then v else σ a k
theorem yfill_t {σ : zMem} {o lo hi v a k : Int} (h : a = o ∧ lo ≤ k ∧ k < hi) : yfill σ o lo hi v a k = v := if_pos h
theorem yfill_f {σ : zMem} {o lo hi v a k : Int} (h : ¬ (a = o ∧ lo ≤ k ∧ k < hi)) : yfill σ o lo hi v a k = σ a k := if_neg h
theorem yfill_0 {σ : zMem} {o lo hi v : Int} (h : hi ≤ lo) : yfill σ o lo hi v = σ := funext fun a => funext fun k => yfill_f (by omega)
theorem yfill_up {σ : zMem} {o lo hi v : Int} (ho : o ≠ 0) (h : lo < hi) : yfill (zup σ o lo v) o (lo + 1) hi v = yfill σ o lo hi v := by
  funext a k
  by_cases h1 : a = o ∧ lo + 1 ≤ k ∧ k < hi
  · rw [yfill_t h1, yfill_t (by omega)]
  · rw [yfill_f h1]
    by_cases h2 : a = o ∧ k = lo
    · rw [zup_t ⟨h2.1, h2.2, ho⟩, yfill_t (by omega)]
    · rw [zup_f (by omega), yfill_f (by omega)]
theorem zInv_S {σ σ' : zMem} (t : zInv σ) (h : ∀ a k, ¬ (75 ≤ a ∧ a ≤ 77) → ¬ (226 ≤ a ∧ a ≤ 228) → σ' a k = σ a k) (hs : zI_S σ') : zInv σ' := by
  obtain ⟨t0, t1, t2, t3, t4, t5, t6, t7⟩ := t
  exact ⟨(h _ _ (by decide) (by decide)).trans t0, zI_T_fr (fun a k q => h _ _ (by unfold zsT at q; omega) (by unfold zsT at q; omega)) t1, zCa_fr t1.1.2.1 (fun a k q => h _ _ (by unfold zsC at q; omega) (by unfold zsC at q; omega)) t2,
    zI_K_fr (fun a k q => h _ _ (by unfold zsK at q; omega) (by unfold zsK at q; omega)) t3, zI_B_fr (fun a k q => h _ _ (by unfold zsB at q; omega) (by unfold zsB at q; omega)) t4, hs,
    zI_R_fr (fun a k q => h _ _ (by unfold zsR at q; omega) (by unfold zsR at q; omega)) t6, zI_P_fr (fun a k q => h _ _ (by unfold zsP at q; omega) (by unfold zsP at q; omega)) t7⟩
theorem l_84 (w : zW) (d : Nat) {x : Int} (hx : 0 ≤ x ∧ x < 8) : ∀ (n : Nat) (k : Int) (v2 v3 : zV) (σ : zMem), 0 ≤ k → k + n = 40 →
    zden w (d + 1) 84 16 [zA 8 3 74, zI x, v2, v3, zI k] [] σ = some (0, yfill σ 77 (40 * x + k) (40 * x + 40) 0) := by
  intro n
  induction n with
  | zero =>
    intro k v2 v3 σ h0 h
    rw [hX7_putRow_16, if_neg (by omega), yfill_0 (by omega)]
  | succ n ih =>
    intro k v2 v3 σ h0 h
    have e : zar 0 (zar 2 x 40) k = 40 * x + k := by rw [za_2, za_0, zw32_i (z := x * 40) (by omega), zw32_i (by omega)]; omega
    rw [hX7_putRow_16, e, if_pos (by omega), if_pos (by omega), za_0, zw32_i (by omega), ih (k + 1) _ _ _ (by omega) (by omega), show 40 * x + (k + 1) = (40 * x + k) + 1 by omega, yfill_up (by decide) (by omega)]
theorem l_308 (w : zW) (d : Nat) {x : Int} (hx : 0 ≤ x ∧ x < 8) : ∀ (n : Nat) (k : Int) (v2 v3 : zV) (σ : zMem), 0 ≤ k → k + n = 40 →
    zden w (d + 1) 308 31 [zA 13 32 209, zI x, v2, v3, zI k] [] σ = some (1, yfill σ 228 (40 * x + k) (40 * x + 40) 0) := by
  intro n
  induction n with
  | zero =>
    intro k v2 v3 σ h0 h
    rw [hX12_row_31, if_neg (by omega), yfill_0 (by omega)]
  | succ n ih =>
    intro k v2 v3 σ h0 h
    have e : zar 0 (zar 2 40 x) k = 40 * x + k := by rw [za_2, za_0, zw32_i (z := 40 * x) (by omega), zw32_i (by omega)]
    rw [hX12_row_31, e, if_pos (by omega), if_pos (by omega), za_0, zw32_i (by omega), ih (k + 1) _ _ _ (by omega) (by omega), show 40 * x + (k + 1) = (40 * x + k) + 1 by omega, yfill_up (by decide) (by omega)]
theorem op_0 (w : zW) (x1 x2 x3 : Int) : zOp zInv w 138 308 [zI x1, zI x2, zI x3] := by
  intro σ hI
  by_cases h1 : 0 ≤ x1 ∧ x1 < 8
  · by_cases h2 : (0 ≤ x2 ∧ x2 ≤ 4) ∧ (0 ≤ x3 ∧ x3 ≤ 40)
    · refine ⟨1, yfill (zup (zup σ 75 x1 x2) 76 x1 x3) 77 (40 * x1 + 0) (40 * x1 + 40) 0, yfill (zup (zup (yfill (zup (zup σ 75 x1 x2) 76 x1 x3) 77 (40 * x1 + 0) (40 * x1 + 40) 0) 226 x1 x2) 227 x1 x3) 228 (40 * x1 + 0) (40 * x1 + 40) 0, (eX11_row w 998 x1 x2 x3 σ).trans ?_, (eX12_row w 998 x1 x2 x3 _).trans ?_, ?_⟩
      · simp only [s_201, s_200, Option.bind_some, zt_if]
        rw [if_pos h1, if_pos h2.1, if_pos h2.2, eX7_putRow w 997]
        simp only [s_201, Option.bind_some, zt_if]
        rw [if_pos h1, if_pos h1, if_pos h1, l_84 w 997 h1 40 0 _ _ _ (by omega) (by omega)]
        rfl
      · simp only [s_307 w (show 1 ≤ 998 by decide), s_213, Option.bind_some, zt_if]
        rw [if_pos h1, if_pos h2.1, if_pos h2.2, if_pos h1, if_pos h1, l_308 w 998 h1 40 0 _ _ _ (by omega) (by omega)]
      · refine zInv_S hI (fun a k q r => ?_) fun s a b => ?_
        · rw [yfill_f (by omega), zup_f (by omega), zup_f (by omega), yfill_f (by omega), zup_f (by omega), zup_f (by omega)]
        · have hs := hI.2.2.2.2.2.1 s a b
          by_cases e : s = x1
          · subst e
            refine ⟨?_, Or.inr (Or.inl ?_), fun i c f => ?_⟩
            · rw [yfill_f (by omega), zup_f (by omega), zup_f (by omega), yfill_f (by omega), zup_f (by omega), zup_t (by omega), yfill_f (by omega), zup_f (by omega), zup_t (by omega)]
            · rw [yfill_f (a := 226) (by omega), zup_f (a' := 226) (by omega), zup_t (a' := 226) (by omega), yfill_f (a := 76) (by omega), zup_f (a' := 76) (by omega), zup_f (a' := 76) (by omega), yfill_f (a := 76) (by omega), zup_t (a' := 76) (by omega), yfill_f (a := 227) (by omega), zup_t (a' := 227) (by omega)]
              omega
            · rw [yfill_f (a := 77) (by omega), zup_f (a' := 77) (by omega), zup_f (a' := 77) (by omega), yfill_t (a := 77) (by omega), yfill_t (a := 228) (by omega)]
          · refine ⟨?_, ?_, fun i c f => ?_⟩
            · rw [yfill_f (by omega), zup_f (by omega), zup_f (by omega), yfill_f (by omega), zup_f (by omega), zup_f (by omega), yfill_f (by omega), zup_f (by omega), zup_f (by omega), yfill_f (by omega), zup_f (by omega), zup_f (by omega)]
              exact hs.1
            · have g : ∀ o k, (o = 226 ∨ o = 76 ∨ o = 227 ∨ o = 209) → (k ≠ x1 ∨ o = 209) → yfill (zup (zup (yfill (zup (zup σ 75 x1 x2) 76 x1 x3) 77 (40 * x1 + 0) (40 * x1 + 40) 0) 226 x1 x2) 227 x1 x3) 228 (40 * x1 + 0) (40 * x1 + 40) 0 o k = σ o k := fun o k q r => by
                rw [yfill_f (by omega), zup_f (by omega), zup_f (by omega), yfill_f (by omega), zup_f (by omega), zup_f (by omega)]
              rw [g 226 s (by decide) (Or.inl e), g 76 s (by decide) (Or.inl e), g 227 s (by decide) (Or.inl e), g 209 1 (by decide) (Or.inr rfl)]
              exact hs.2.1
            · rw [yfill_f (a := 77) (by omega), zup_f (a' := 77) (by omega), zup_f (a' := 77) (by omega), yfill_f (a := 77) (by omega), zup_f (by omega), zup_f (by omega), yfill_f (by omega), zup_f (by omega), zup_f (by omega), yfill_f (by omega), zup_f (by omega), zup_f (by omega)]
              exact hs.2.2 i c f
    · refine yref hI (n := -62) ((eX11_row w 998 x1 x2 x3 σ).trans ?_) ((eX12_row w 998 x1 x2 x3 _).trans ?_)
      · simp only [s_201, s_200, Option.bind_some, zt_if, s_194 w 998 (n := -62) (by decide)]
        rw [if_pos h1]
        by_cases h3 : 0 ≤ x2 ∧ x2 ≤ 4
        · rw [if_pos h3, if_neg (fun q => h2 ⟨h3, q⟩)]
        · rw [if_neg h3]
      · simp only [s_307 w (show 1 ≤ 998 by decide), s_213, Option.bind_some, zt_if, s_214 w 998 (n := -62) (by decide)]
        rw [if_pos h1]
        by_cases h3 : 0 ≤ x2 ∧ x2 ≤ 4
        · rw [if_pos h3, if_neg (fun q => h2 ⟨h3, q⟩)]
        · rw [if_neg h3]
  · refine yref hI (n := -62) ((eX11_row w 998 x1 x2 x3 σ).trans ?_) ((eX12_row w 998 x1 x2 x3 _).trans ?_)
    · simp only [s_201, Option.bind_some, zt_if, s_194 w 998 (n := -62) (by decide)]
      rw [if_neg h1]
    · simp only [s_307 w (show 1 ≤ 998 by decide), Option.bind_some, zt_if, s_214 w 998 (n := -62) (by decide)]
      rw [if_neg h1]
