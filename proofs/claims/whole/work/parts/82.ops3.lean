/-! Calls 5 and 2: show, copy -/
theorem zI_hn {σ : zMem} (hI : zInv σ) : 0 ≤ σ 209 1 ∧ σ 209 1 ≤ 24 := ⟨hI.2.1.1.1, hI.2.1.1.2.1⟩
theorem zI_h2 {σ : zMem} (hI : zInv σ) : σ 2 7 = σ 209 1 := hI.2.1.2.1
theorem s_85 (w : zW) {d : Nat} (hd : 1 ≤ d) {x s : Int} (hx : 0 ≤ x ∧ x < 8) (hs : -1 ≤ s ∧ s < 24) (σ : zMem) : zcall w d 85 [zA 8 3 74, zI x, zI s] σ = some (0, zup (zup σ 75 x (if s = -1 then -1 else 10 + s)) 76 x 0) := by
  obtain ⟨d, rfl⟩ : ∃ e, d = e + 1 := ⟨d - 1, by omega⟩
  rw [eX7_putShape]
  simp only [s_201, Option.bind_some, zt_if]
  rw [if_pos hx]
  by_cases h : s = -1
  · rw [if_pos h, if_pos hx, if_pos hx, if_pos h]
  · rw [if_neg h, if_pos hx, if_pos hx, if_neg h, za_0, zw32_i (by omega)]
theorem op_5 (w : zW) (x1 x2 : Int) : zOp zInv w 143 314 [zI x1, zI x2] := by
  intro σ hI
  have hn := zI_hn hI
  have h2 := zI_h2 hI
  by_cases h1 : 0 ≤ x1 ∧ x1 < 8
  · by_cases h3 : -1 ≤ x2 ∧ x2 < σ 209 1
    · refine yop 1 (zup (zup σ 75 x1 (if x2 = -1 then -1 else 10 + x2)) 76 x1 0) (zup (zup (zup σ 75 x1 (if x2 = -1 then -1 else 10 + x2)) 76 x1 0) 226 x1 (if x2 = -1 then -1 else 10 + x2)) ((eX11_show w 998 x1 x2 σ).trans ?_) ((eX12_show w 998 x1 x2 _).trans ?_) ?_
      · simp only [s_201, s_197 w (show 1 ≤ 998 by decide), s_85 w (show 1 ≤ 998 by decide) h1 (show -1 ≤ x2 ∧ x2 < 24 by omega), Option.bind_some, zt_if]
        rw [if_pos h1]
        by_cases h : x2 = -1
        · rw [if_pos h]
        · rw [if_neg h, if_pos (by omega)]
      · have g : zup (zup σ 75 x1 (if x2 = -1 then -1 else 10 + x2)) 76 x1 0 209 1 = σ 209 1 := by rw [zup_f (by omega), zup_f (by omega)]
        simp only [s_307 w (show 1 ≤ 998 by decide), s_218 w (show 1 ≤ 998 by decide) x2 (σ := zup (zup σ 75 x1 (if x2 = -1 then -1 else 10 + x2)) 76 x1 0) (by rw [g]; exact hn), Option.bind_some, zt_if, g]
        rw [if_pos h1]
        by_cases h : x2 = -1
        · rw [if_pos h, if_pos h, if_pos h1, if_pos h]
        · rw [if_neg h, if_pos (by omega), if_neg h, if_pos h1, if_neg h, za_0, zw32_i (by omega)]
      · have hv : (if x2 = -1 then (-1 : Int) else 10 + x2) = -1 ∨ (10 ≤ (if x2 = -1 then (-1 : Int) else 10 + x2) ∧ (if x2 = -1 then (-1 : Int) else 10 + x2) < 10 + σ 209 1) := by split <;> omega
        generalize (if x2 = -1 then (-1 : Int) else 10 + x2) = v at hv
        refine zInv_S hI (fun a k q r => ?_) fun s a b => ?_
        · rw [zup_f (by omega), zup_f (by omega), zup_f (by omega)]
        · have hs := hI.2.2.2.2.2.1 s a b
          have g : ∀ a k, (a ≠ 75 ∧ a ≠ 76 ∧ a ≠ 226) ∨ k ≠ x1 → zup (zup (zup σ 75 x1 v) 76 x1 0) 226 x1 v a k = σ a k := fun a k q => by rw [zup_f (by omega), zup_f (by omega), zup_f (by omega)]
          rw [g 227 s (by omega), g 209 1 (by omega)]
          have hel : ∀ i : Int, 0 ≤ i → i < 40 → zup (zup (zup σ 75 x1 v) 76 x1 0) 226 x1 v 77 (40 * s + i) = zup (zup (zup σ 75 x1 v) 76 x1 0) 226 x1 v 228 (40 * s + i) := fun i c f => by
            rw [g 77 _ (by omega), g 228 _ (by omega)]
            exact hs.2.2 i c f
          by_cases e : s = x1
          · subst e
            have e1 : zup (zup (zup σ 75 s v) 76 s 0) 226 s v 75 s = v := by rw [zup_f (by omega), zup_f (by omega), zup_t (by omega)]
            have e2 : zup (zup (zup σ 75 s v) 76 s 0) 226 s v 226 s = v := zup_t (by omega)
            have e3 : zup (zup (zup σ 75 s v) 76 s 0) 226 s v 76 s = 0 := by rw [zup_f (by omega), zup_t (by omega)]
            rw [e1, e2, e3]
            exact ⟨rfl, by omega, hel⟩
          · rw [g 75 s (by omega), g 226 s (by omega), g 76 s (by omega)]
            exact ⟨hs.1, hs.2.1, hel⟩
    · refine yref hI (n := -62) ((eX11_show w 998 x1 x2 σ).trans ?_) ((eX12_show w 998 x1 x2 _).trans ?_)
      · simp only [s_201, s_197 w (show 1 ≤ 998 by decide), s_194 w 998 (n := -62) (by decide), Option.bind_some, zt_if]
        rw [if_pos h1, if_neg (by omega), if_neg (by omega)]
      · have g : zrA σ (-62) 209 1 = σ 209 1 := zup_f (Or.inl (by decide))
        simp only [s_307 w (show 1 ≤ 998 by decide), s_218 w (show 1 ≤ 998 by decide) x2 (σ := zrA σ (-62)) (by rw [g]; exact hn), Option.bind_some, zt_if, g, s_214 w 998 (n := -62) (by decide)]
        rw [if_pos h1, if_neg (by omega), if_neg (by omega)]
  · refine yref hI (n := -62) ((eX11_show w 998 x1 x2 σ).trans ?_) ((eX12_show w 998 x1 x2 _).trans ?_)
    · simp only [s_201, Option.bind_some, zt_if, s_194 w 998 (n := -62) (by decide)]
      rw [if_neg h1]
    · simp only [s_307 w (show 1 ≤ 998 by decide), Option.bind_some, zt_if, s_214 w 998 (n := -62) (by decide)]
      rw [if_neg h1]
theorem s_206 (w : zW) (d : Nat) {i n z : Int} (hi : zc32 i) (hz : 0 ≤ z ∧ z ≤ 40) (σ : zMem) : zcall w d 206 [zI i, zI n, zI z] σ = some (zt (0 ≤ i ∧ 0 ≤ n ∧ n ≤ z ∧ i ≤ z - n), σ) := by
  rw [eX11_isRun, zt, za_1]
  by_cases h : 0 ≤ n ∧ n ≤ z
  · rw [zw32_i (by omega)]
    (repeat' split) <;> first | rfl | omega
  · (repeat' split) <;> first | rfl | omega
theorem zfc_t {σ : zMem} {a sp b dp n a' k' : Int} (h : b ≠ 0 ∧ a' = b ∧ dp ≤ k' ∧ k' < dp + n) : zfc σ a sp b dp n a' k' = σ a (sp + (k' - dp)) := if_pos h
theorem zfc_f {σ : zMem} {a sp b dp n a' k' : Int} (h : ¬ (a' = b ∧ dp ≤ k' ∧ k' < dp + n)) : zfc σ a sp b dp n a' k' = σ a' k' := if_neg (fun q => h q.2)
theorem s_91 (w : zW) {d : Nat} (hd : 2 ≤ d) {p q i j n : Int} {σ : zMem} (hp : 0 ≤ p ∧ p < 8) (hq : 0 ≤ q ∧ q < 8) (h1 : 0 ≤ i ∧ 0 ≤ n ∧ n ≤ σ 76 p ∧ i ≤ σ 76 p - n) (h2 : 0 ≤ j ∧ j ≤ σ 76 q - n) (h3 : σ 76 p ≤ 40 ∧ σ 76 q ≤ 40) :
    zcall w d 91 [zA 8 3 74, zI p, zI q, zI i, zI j, zI n] σ = some (0, zfc σ 77 (40 * p + i) 77 (40 * q + j) n) := by
  obtain ⟨d, rfl⟩ : ∃ e, d = e + 1 := ⟨d - 1, by omega⟩
  rw [eX7_moveElements]
  by_cases h : 0 < n
  · have e1 : zar 1 (zar 0 i n) 1 = i + n - 1 := by rw [za_1, za_0, zw32_i (z := i + n) (by omega), zw32_i (by omega)]
    have e2 : zar 1 (zar 0 j n) 1 = j + n - 1 := by rw [za_1, za_0, zw32_i (z := j + n) (by omega), zw32_i (by omega)]
    have e3 : zar 0 (zar 2 p 40) i = 40 * p + i := by rw [za_2, za_0, zw32_i (z := p * 40) (by omega), zw32_i (by omega)]; omega
    have e4 : zar 0 (zar 2 q 40) j = 40 * q + j := by rw [za_2, za_0, zw32_i (z := q * 40) (by omega), zw32_i (by omega)]; omega
    rw [if_pos h]
    simp only [s_87 w (show 1 ≤ d by omega), Option.bind_some, zt_if, e1, e2, e3, e4]
    rw [if_pos (by omega), if_pos (by omega), if_pos (by omega), if_pos (by omega), if_pos ⟨trivial, Or.inr trivial, by omega, by omega, by omega, by omega, by omega, by decide⟩]
  · rw [if_neg h]
    congr 2
    funext a k
    rw [zfc_f (by omega)]
theorem l_311 (w : zW) (d : Nat) {p q i j n : Int} (hp : 0 ≤ p ∧ p < 8) (hq : 0 ≤ q ∧ q < 8) (h1 : 0 ≤ i ∧ 0 ≤ n ∧ i + n ≤ 40) (h2 : 0 ≤ j ∧ j + n ≤ 40) {σ0 : zMem} : ∀ (m : Nat) (x : Int) (v : zV) (σ : zMem), 0 ≤ x → x + m = n →
    σ = (if i < j then zfc σ0 228 (40 * p + i + (n - x)) 228 (40 * q + j + (n - x)) x else zfc σ0 228 (40 * p + i) 228 (40 * q + j) x) →
    (p = q ∨ ¬ p = q) →
    zden w (d + 1) 311 99 [zA 13 32 209, zI p, zI q, zI i, zI j, zI n, zI x, v] [] σ = some (n, zfc σ0 228 (40 * p + i) 228 (40 * q + j) n) := by
  intro m
  induction m with
  | zero =>
    intro x v σ h0 h hs hpq
    have : x = n := by omega
    subst this
    rw [hX12_copy_99, if_neg (by omega), hs]
    by_cases c : i < j
    · rw [if_pos c, show 40 * p + i + (x - x) = 40 * p + i by omega, show 40 * q + j + (x - x) = 40 * q + j by omega]
    · rw [if_neg c]
  | succ m ih =>
    intro x v σ h0 h hs hpq
    rw [hX12_copy_99, if_pos (by omega)]
    have e1 : zar 2 40 p = 40 * p := by rw [za_2, zw32_i (by omega)]
    have e2 : zar 2 40 q = 40 * q := by rw [za_2, zw32_i (by omega)]
    have e3 : zar 0 (40 * p) i = 40 * p + i := by rw [za_0, zw32_i (by omega)]
    have e4 : zar 0 (40 * q) j = 40 * q + j := by rw [za_0, zw32_i (by omega)]
    have e5 : zar 1 (zar 1 n 1) x = n - 1 - x := by rw [za_1, za_1, zw32_i (z := n - 1) (by omega), zw32_i (by omega)]
    have e6 : zar 0 x 1 = x + 1 := by rw [za_0, zw32_i (by omega)]
    have e7 : ∀ y, 0 ≤ y → y < n → zar 0 (40 * p + i) y = 40 * p + i + y := fun y a b => by rw [za_0, zw32_i (by omega)]
    have e8 : ∀ y, 0 ≤ y → y < n → zar 0 (40 * q + j) y = 40 * q + j + y := fun y a b => by rw [za_0, zw32_i (by omega)]
    by_cases c : i < j
    · rw [if_pos c] at hs
      rw [if_pos c, e1, e2, e3, e4, e5, e6, e7 _ (by omega) (by omega), e8 _ (by omega) (by omega), if_pos (by omega), if_pos (by omega)]
      refine ih (x + 1) _ _ (by omega) (by omega) ?_ hpq
      rw [if_pos c, hs]
      funext a k
      by_cases g : a = 228 ∧ k = 40 * q + j + (n - 1 - x)
      · rw [zup_t (by omega), zfc_t (a' := a) (k' := k) (by omega), zfc_f (by rcases Int.lt_trichotomy p q with u | u | u <;> omega)]
        congr 1
        omega
      · rw [zup_f (by omega)]
        by_cases g2 : a = 228 ∧ 40 * q + j + (n - x) ≤ k ∧ k < 40 * q + j + (n - x) + x
        · rw [zfc_t (by omega), zfc_t (by omega)]
          congr 1
          omega
        · rw [zfc_f (by omega), zfc_f (by omega)]
    · rw [if_neg c] at hs
      rw [if_neg c, e1, e2, e3, e4, e6, e7 _ (by omega) (by omega), e8 _ (by omega) (by omega), if_pos (by omega), if_pos (by omega)]
      refine ih (x + 1) _ _ (by omega) (by omega) ?_ hpq
      rw [if_neg c, hs]
      funext a k
      by_cases g : a = 228 ∧ k = 40 * q + j + x
      · rw [zup_t (by omega), zfc_t (a' := a) (k' := k) (by omega), zfc_f (by rcases Int.lt_trichotomy p q with u | u | u <;> omega)]
        congr 1
        omega
      · rw [zup_f (by omega)]
        by_cases g2 : a = 228 ∧ 40 * q + j ≤ k ∧ k < 40 * q + j + x
        · rw [zfc_t (by omega), zfc_t (by omega)]
        · rw [zfc_f (by omega), zfc_f (by omega)]
