/-! Call 18: drop -/
/-- shapes from n on are held no longer -/
def yls (o n k : Int) (σ : zMem) : zMem := fun a j => if a = o ∧ k ≤ j ∧ j < 8 ∧ 10 + n ≤ σ o j then -1 else σ a j
theorem yls_t {o n k : Int} {σ : zMem} {a j : Int} (h : a = o ∧ k ≤ j ∧ j < 8 ∧ 10 + n ≤ σ o j) : yls o n k σ a j = -1 := if_pos h
theorem yls_f {o n k : Int} {σ : zMem} {a j : Int} (h : ¬ (a = o ∧ k ≤ j ∧ j < 8 ∧ 10 + n ≤ σ o j)) : yls o n k σ a j = σ a j := if_neg h
theorem zup_same {σ : zMem} {a k : Int} : zup σ a k (σ a k) = σ := by
  funext a' k'
  by_cases h : a' = a ∧ k' = k
  · obtain ⟨rfl, rfl⟩ := h
    unfold zup
    rw [if_pos ⟨rfl, rfl⟩]
    split
    · exact Int.max_self _
    · rfl
  · exact zup_n h
theorem yls_up {o n k : Int} {σ : zMem} (ho : o ≠ 0) (hk : k < 8) (h : 10 + n ≤ σ o k) : yls o n (k + 1) (zup σ o k (-1)) = yls o n k σ := by
  funext a j
  by_cases e : a = o ∧ j = k
  · rw [yls_f (by omega), zup_t ⟨e.1, e.2, ho⟩, yls_t (by rw [e.2]; omega)]
  · unfold yls
    by_cases e2 : a = o
    · rw [zup_f (by omega), zup_f (by omega)]
      by_cases e3 : a = o ∧ k ≤ j ∧ j < 8 ∧ 10 + n ≤ σ o j
      · rw [if_pos (by omega), if_pos e3]
      · rw [if_neg (by omega), if_neg e3]
    · rw [if_neg (by omega), if_neg (by omega), zup_f (by omega)]
theorem yls_no {o n k : Int} {σ : zMem} (h : ¬ 10 + n ≤ σ o k) : yls o n (k + 1) σ = yls o n k σ := by
  funext a j
  unfold yls
  by_cases e3 : a = o ∧ k ≤ j ∧ j < 8 ∧ 10 + n ≤ σ o j
  · have : j ≠ k := fun q => by rw [q] at e3; omega
    rw [if_pos (by omega), if_pos e3]
  · rw [if_neg (by omega), if_neg e3]
theorem yls_8 {o n : Int} {σ : zMem} : yls o n 8 σ = σ := by
  funext a j
  exact yls_f (by omega)
theorem l_86 (w : zW) (d : Nat) {n : Int} (hn : 0 ≤ n ∧ n ≤ 24) : ∀ (m : Nat) (k : Int) (σ : zMem), 0 ≤ k → k + m = 8 → zden w d 86 2 [zA 8 3 74, zI n, zI k] [] σ = some (0, yls 75 n k σ) := by
  intro m
  induction m with
  | zero =>
    intro k σ h0 h
    have : k = 8 := by omega
    subst this
    rw [hX7_keepShapesBelow_2, if_neg (by omega), yls_8]
  | succ m ih =>
    intro k σ h0 h
    have e : zar 0 10 n = 10 + n := by rw [za_0, zw32_i (by omega)]
    rw [hX7_keepShapesBelow_2, if_pos (by omega), if_pos (by omega), e, za_0, zw32_i (by omega)]
    by_cases c : σ 75 k < 10 + n
    · rw [if_pos c, ih (k + 1) _ (by omega) (by omega), yls_no (by omega)]
    · rw [if_neg c, if_pos (by omega), ih (k + 1) _ (by omega) (by omega), yls_up (by decide) (by omega) (by omega)]
theorem s_86 (w : zW) (d : Nat) {n : Int} (hn : 0 ≤ n ∧ n ≤ 24) (σ : zMem) : zcall w d 86 [zA 8 3 74, zI n] σ = some (0, yls 75 n 0 σ) := by
  rw [eX7_keepShapesBelow, l_86 w d hn 8 0 σ (by omega) (by omega)]
theorem l_292 (w : zW) (d : Nat) {n : Int} (hn : 0 ≤ n ∧ n ≤ 24) : ∀ (m : Nat) (k : Int) (σ : zMem), σ 209 1 = n → 0 ≤ k → k + m = 8 → zden w d 292 2 [zA 13 32 209, zI k] [] σ = some (0, yls 226 n k σ) := by
  intro m
  induction m with
  | zero =>
    intro k σ hs h0 h
    have : k = 8 := by omega
    subst this
    rw [hX12_looseShelves_2, if_neg (by omega), yls_8]
  | succ m ih =>
    intro k σ hs h0 h
    have e : zar 0 10 n = 10 + n := by rw [za_0, zw32_i (by omega)]
    rw [hX12_looseShelves_2, if_pos (by omega), if_pos (by omega), hs, e, za_0, zw32_i (z := k + 1) (by omega)]
    by_cases c : σ 226 k < 10 + n
    · rw [if_pos c, if_pos (by omega), if_pos (by omega), zup_same, ih (k + 1) _ hs (by omega) (by omega), yls_no (by omega)]
    · rw [if_neg c, if_pos (by omega), ih (k + 1) _ ((zup_f (by omega)).trans hs) (by omega) (by omega), yls_up (by decide) (by omega) (by omega)]
theorem s_292 (w : zW) (d : Nat) {σ : zMem} (hn : 0 ≤ σ 209 1 ∧ σ 209 1 ≤ 24) : zcall w d 292 [zA 13 32 209] σ = some (0, yls 226 (σ 209 1) 0 σ) := by
  rw [eX12_looseShelves, l_292 w d hn 8 0 σ rfl (by omega) (by omega)]
theorem zWF_le {T : Int → Int} {n m : Int} (t : zWF T n) (h0 : 0 ≤ m) (h : m ≤ n) : zWF T m := ⟨h0, by have := t.2.1; omega, fun s a b => t.2.2 s a (by omega)⟩
theorem zTb_le {o : Int} {σ : zMem} {T : Int → Int} {n m : Int} (t : zTb o σ T n) (h : m ≤ n) (h7 : σ o 7 = m) : zTb o σ T m := ⟨h7, fun s a b => t.2 s a (by omega)⟩
theorem zTb_fr2 {o : Int} {σ σ' : zMem} {T : Int → Int} {n m : Int} (h : ∀ a k, o + 1 ≤ a → a ≤ o + 7 → σ' a k = σ a k) (t : zTb o σ T n) (hm : m ≤ n) (h7 : σ' o 7 = m) : zTb o σ' T m := by
  refine ⟨h7, fun s a b => ?_⟩
  obtain ⟨h1, h2, h3, h4, h5, h6, h7⟩ := t.2 s a (by omega)
  exact ⟨(h _ _ (by omega) (by omega)).trans h1, (h _ _ (by omega) (by omega)).trans h2, (h _ _ (by omega) (by omega)).trans h3, (h _ _ (by omega) (by omega)).trans h4,
    (h _ _ (by omega) (by omega)).trans h5, (h _ _ (by omega) (by omega)).trans h6, fun k c d => (h _ _ (by omega) (by omega)).trans (h7 k c d)⟩
/-- what of a shelf stays when shapes from n on are held no longer -/
theorem zI_S_loose {σ σ' : zMem} {n : Int} (hn : 0 ≤ n) (t : zI_S σ) (hr : ∀ a k, a = 76 ∨ a = 77 ∨ a = 227 ∨ a = 228 → σ' a k = σ a k) (h1 : σ' 209 1 = n)
    (h75 : ∀ s, 0 ≤ s → s < 8 → σ' 75 s = if 10 + n ≤ σ 75 s then -1 else σ 75 s) (h226 : ∀ s, 0 ≤ s → s < 8 → σ' 226 s = if 10 + n ≤ σ 226 s then -1 else σ 226 s) : zI_S σ' := by
  intro s a b
  have hs := t s a b
  rw [h75 s a b, h226 s a b, hr 76 s (by decide), hr 227 s (by decide), h1, hs.1]
  refine ⟨rfl, ?_, fun i c d => ?_⟩
  · by_cases c : 10 + n ≤ σ 226 s
    · rw [if_pos c]
      omega
    · rw [if_neg c]
      omega
  · rw [hr 77 _ (by decide), hr 228 _ (by decide)]
    exact hs.2.2 i c d
theorem s_343 (w : zW) (d : Nat) (x y : Int) (σ : zMem) : zcall w d 343 [zI x, zI y] σ = some (min x y, σ) := by
  rw [eJ9_min_7cf53]
  split
  · rw [Int.min_eq_right (by omega)]
  · rw [Int.min_eq_left (by omega)]
theorem op_18 (w : zW) : zOp zInv w 161 293 [] := by
  intro σ hI
  have hn := zI_hn hI
  have h27 := zI_h2 hI
  by_cases h0 : σ 209 1 = 0
  · refine yref hI (n := -65) ((eX11_drop w 998 σ).trans ?_) ((eX12_drop w 998 _).trans ?_)
    · simp only [eX9_size, Option.bind_some, s_194 w 998 (n := -65) (by decide)]
      rw [if_pos (by omega)]
    · have g : ∀ a k, a ≠ 208 → zrA σ (-65) a k = σ a k := fun a k q => zup_f (Or.inl q)
      rw [g 209 1 (by decide), if_pos h0, s_214 w 998 (by decide), Option.bind_some]
  · obtain ⟨n, hN⟩ : ∃ n, n = σ 209 1 - 1 := ⟨_, rfl⟩
    have e : zar 1 (σ 209 1) 1 = n := by rw [za_1, zw32_i (by omega)]; omega
    refine yop n (yls 75 n 0 (zup (zup σ 2 7 n) 1 15 (min (σ 1 15) n))) (yls 226 n 0 (zup (yls 75 n 0 (zup (zup σ 2 7 n) 1 15 (min (σ 1 15) n))) 209 1 n)) ((eX11_drop w 998 σ).trans ?_) ((eX12_drop w 998 _).trans ?_) ?_
    · simp only [eX9_size, eX9_resize, Option.bind_some, h27, e, s_343]
      rw [if_neg (by omega)]
      have e1 : zup σ 2 7 n 2 7 = n := zup_t (by omega)
      have e2 : zup σ 2 7 n 1 15 = σ 1 15 := zup_f (by omega)
      have e3 : zup (zup σ 2 7 n) 1 15 (min (σ 1 15) n) 2 7 = n := (zup_f (by omega)).trans e1
      rw [e1, e2, e3, s_86 w 998 (by omega), Option.bind_some]
      dsimp only
      rw [yls_f (by omega), e3]
    · have g1 : yls 75 n 0 (zup (zup σ 2 7 n) 1 15 (min (σ 1 15) n)) 209 1 = σ 209 1 := by rw [yls_f (by omega), zup_f (by omega), zup_f (by omega)]
      rw [g1, if_neg h0, e]
      have g2 : zup (yls 75 n 0 (zup (zup σ 2 7 n) 1 15 (min (σ 1 15) n))) 209 1 n 209 1 = n := zup_t (by omega)
      rw [s_292 w 998 (by rw [g2]; omega), Option.bind_some, g2]
      dsimp only
      rw [yls_f (by omega), g2]
    · generalize hv : min (σ 1 15) n = v
      have g : ∀ a k, a ≠ 75 → a ≠ 226 → ¬ (a = 209 ∧ k = 1) → ¬ (a = 1 ∧ k = 15) → ¬ (a = 2 ∧ k = 7) → yls 226 n 0 (zup (yls 75 n 0 (zup (zup σ 2 7 n) 1 15 v)) 209 1 n) a k = σ a k := fun a k q1 q2 q3 q4 q5 => by
        rw [yls_f (by omega), zup_f (by omega), yls_f (by omega), zup_f (by omega), zup_f (by omega)]
      have gf : ∀ a, a ≠ 75 → a ≠ 226 → a ≠ 209 → a ≠ 1 → a ≠ 2 → yls 226 n 0 (zup (yls 75 n 0 (zup (zup σ 2 7 n) 1 15 v)) 209 1 n) a = σ a := fun a q1 q2 q3 q4 q5 => funext fun k => g a k q1 q2 (by omega) (by omega) (by omega)
      have g1 : yls 226 n 0 (zup (yls 75 n 0 (zup (zup σ 2 7 n) 1 15 v)) 209 1 n) 209 1 = n := by rw [yls_f (by omega), zup_t (by omega)]
      have g2 : yls 226 n 0 (zup (yls 75 n 0 (zup (zup σ 2 7 n) 1 15 v)) 209 1 n) 2 7 = n := by rw [yls_f (by omega), zup_f (by omega), yls_f (by omega), zup_f (by omega), zup_t (by omega)]
      have g3 : yls 226 n 0 (zup (yls 75 n 0 (zup (zup σ 2 7 n) 1 15 v)) 209 1 n) 1 15 = v := by rw [yls_f (by omega), zup_f (by omega), yls_f (by omega), zup_t (by omega)]
      have g75 : ∀ s, 0 ≤ s → s < 8 → yls 226 n 0 (zup (yls 75 n 0 (zup (zup σ 2 7 n) 1 15 v)) 209 1 n) 75 s = if 10 + n ≤ σ 75 s then -1 else σ 75 s := fun s a b => by
        rw [yls_f (by omega), zup_f (by omega), yls, zup_f (by omega), zup_f (by omega)]
        by_cases c : 10 + n ≤ σ 75 s
        · rw [if_pos ⟨rfl, a, b, c⟩, if_pos c]
        · rw [if_neg (fun q => c q.2.2.2), if_neg c]
      have g226 : ∀ s, 0 ≤ s → s < 8 → yls 226 n 0 (zup (yls 75 n 0 (zup (zup σ 2 7 n) 1 15 v)) 209 1 n) 226 s = if 10 + n ≤ σ 226 s then -1 else σ 226 s := fun s a b => by
        have e0 : zup (yls 75 n 0 (zup (zup σ 2 7 n) 1 15 v)) 209 1 n 226 s = σ 226 s := by rw [zup_f (by omega), yls_f (by omega), zup_f (by omega), zup_f (by omega)]
        rw [yls, e0]
        by_cases c : 10 + n ≤ σ 226 s
        · rw [if_pos ⟨rfl, a, b, c⟩, if_pos c]
        · rw [if_neg (fun q => c q.2.2.2), if_neg c]
      generalize yls 226 n 0 (zup (yls 75 n 0 (zup (zup σ 2 7 n) 1 15 v)) 209 1 n) = σ2 at *
      obtain ⟨t0, t1, t2, t3, t4, t5, t6, t7⟩ := hI
      refine ⟨(g _ _ (by omega) (by omega) (by omega) (by omega) (by omega)).trans t0, ⟨?_, ?_⟩, ?_, ?_, zI_B_fr (fun a k q => g _ _ (by unfold zsB at q; omega) (by unfold zsB at q; omega) (by unfold zsB at q; omega) (by unfold zsB at q; omega) (by unfold zsB at q; omega)) t4, ?_,
        zI_R_fr (fun a k q => g _ _ (by unfold zsR at q; omega) (by unfold zsR at q; omega) (by unfold zsR at q; omega) (by unfold zsR at q; omega) (by unfold zsR at q; omega)) t6, zI_P_fr (fun a k q => g _ _ (by unfold zsP at q; omega) (by unfold zsP at q; omega) (by unfold zsP at q; omega) (by unfold zsP at q; omega) (by unfold zsP at q; omega)) t7⟩
      · rw [gf 210 (by decide) (by decide) (by decide) (by decide) (by decide), g1]
        exact zWF_le t1.1 (by omega) (by omega)
      · rw [gf 210 (by decide) (by decide) (by decide) (by decide) (by decide), g1]
        exact zTb_fr2 (fun a k q r => g _ _ (by omega) (by omega) (by omega) (by omega) (by omega)) t1.2 (by omega) g2
      · rw [gf 210 (by decide) (by decide) (by decide) (by decide) (by decide), g1]
        intro i a b
        rw [g 87 i (by omega) (by omega) (by omega) (by omega) (by omega)]
        rcases t2 i a (by omega) with q | q
        · exact Or.inl q
        · exact Or.inr ⟨q.1, zPS_fr (fun k => g _ _ (by omega) (by omega) (by omega) (by omega) (by omega)) q.2⟩
      · obtain ⟨u1, u2, u3, u4, u5, u6⟩ := t3
        have w1 : v ≤ σ 1 15 ∧ v ≤ n ∧ 0 ≤ v := by omega
        unfold zI_K
        rw [g 209 31 (by omega) (by omega) (by omega) (by omega) (by omega), g 1 14 (by omega) (by omega) (by omega) (by omega) (by omega), g3, g1, gf 243 (by decide) (by decide) (by decide) (by decide) (by decide), gf 258 (by decide) (by decide) (by decide) (by decide) (by decide), gf 210 (by decide) (by decide) (by decide) (by decide) (by decide), gf 244 (by decide) (by decide) (by decide) (by decide) (by decide)]
        refine ⟨u1, u2, w1.2.2, w1.2.1, fun q => by have := u5 q; omega, fun q => ?_⟩
        obtain ⟨x1, x2, x3, x4, x5⟩ := u6 q
        refine ⟨x1, zTb_fr (fun a k q r => g _ _ (by omega) (by omega) (by omega) (by omega) (by omega)) x2, by omega, fun k a b => x4 k a (by omega), ?_⟩
        have x6 := zBl_fr (σ' := σ2) (fun a k q r => g _ _ (by omega) (by omega) (by omega) (by omega) (by omega)) x5
        obtain ⟨v1, v2, v3, v4, v5, v6, v7, v8, v9, v10⟩ := x6
        refine ⟨v1, v2, v3, v4, v5, v6, v7, v8, v9, fun i q r => ?_⟩
        dsimp only
        rw [gf (246 + i) (by omega) (by omega) (by omega) (by omega) (by omega)]
        exact v10 i q r
      · exact zI_S_loose (n := n) (by omega) t5 (fun a k q => g a k (by omega) (by omega) (by omega) (by omega) (by omega)) g1 g75 g226
