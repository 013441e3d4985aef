/-! Tables that agree below n say the same; the reference's copies -/
theorem zsolN_c {T T' : Int → Int} {n : Int} (t : zWF T n) (h : ∀ k : Int, 0 ≤ k → k < 11 * n → T' k = T k) : ∀ (m : Nat) (s : Int), 0 ≤ s → s < n → zsolN T' m s = zsolN T m s := by
  intro m
  induction m with
  | zero => intro s a b; rfl
  | succ m ih =>
    intro s a b
    have hw := t.2.2 s a b
    have k0 := h (11 * s) (by omega) (by omega)
    have k1 := h (11 * s + 1) (by omega) (by omega)
    have k2 := h (11 * s + 2) (by omega) (by omega)
    rw [zsolN, zsolN, k0, k1, k2]
    rcases hw.1 with q | q | q
    · rw [if_pos (by omega), if_pos (by omega)]
    · rw [if_neg (by omega), if_neg (by omega), if_neg (by omega), if_neg (by omega), ih _ (by omega) (by omega), ih _ (by omega) (by omega)]
    · have g1 : ¬ T (11 * s) ≤ 5 := by omega
      have g2 : T (11 * s + 2) < 0 := by omega
      rw [if_neg g1, if_neg g1, if_pos g2, if_pos g2, ih _ (by omega) (by omega)]
theorem zNV_c {k : Int} {N N' : Int → Int} (h : ∀ i : Int, 0 ≤ i → i < 6 → N' i = N i) (t : zNV k N) : zNV k N' := by
  intro i a b
  have hz := zno_b k
  have := t i a b
  rw [h i a (by omega)]
  have e : zahead k i N' = zahead k i N := by
    unfold zahead
    split
    · exact h _ (by omega) (by omega)
    · exact h 0 (by decide) (by decide)
  rw [e]
  exact this
theorem zWF_c {T T' : Int → Int} {n : Int} (t : zWF T n) (h : ∀ k : Int, 0 ≤ k → k < 11 * n → T' k = T k) : zWF T' n := by
  refine ⟨t.1, t.2.1, fun s a b => ?_⟩
  obtain ⟨hw, w1, w2, w3, w4, w5⟩ := t.2.2 s a b
  have k0 := h (11 * s) (by omega) (by omega)
  have k1 := h (11 * s + 1) (by omega) (by omega)
  have k2 := h (11 * s + 2) (by omega) (by omega)
  have k3 := h (11 * s + 3) (by omega) (by omega)
  have k4 := h (11 * s + 4) (by omega) (by omega)
  unfold zWS
  rw [k0, k1, k2, k3, k4]
  refine ⟨?_, w1, w2, w3, w4, zNV_c (fun i x y => h _ (by omega) (by omega)) w5⟩
  rcases hw with q | q | q
  · exact Or.inl q
  · have p3 := h (11 * T (11 * s + 1) + 3) (by omega) (by omega)
    have p4 := h (11 * T (11 * s + 1) + 4) (by omega) (by omega)
    have q3 := h (11 * T (11 * s + 2) + 3) (by omega) (by omega)
    have q4 := h (11 * T (11 * s + 2) + 4) (by omega) (by omega)
    rw [p3, p4, q3, q4]
    exact Or.inr (Or.inl q)
  · have p3 := h (11 * T (11 * s + 1) + 3) (by omega) (by omega)
    have p4 := h (11 * T (11 * s + 1) + 4) (by omega) (by omega)
    rw [p3, p4]
    exact Or.inr (Or.inr q)
theorem zTb_c {o n : Int} {σ : zMem} {T T' : Int → Int} (t : zWF T n) (h : ∀ k : Int, 0 ≤ k → k < 11 * n → T' k = T k) (u : zTb o σ T n) : zTb o σ T' n := by
  refine ⟨u.1, fun s a b => ?_⟩
  obtain ⟨u1, u2, u3, u4, u5, u6, u7⟩ := u.2 s a b
  rw [h (11 * s) (by omega) (by omega), h (11 * s + 1) (by omega) (by omega), h (11 * s + 2) (by omega) (by omega), h (11 * s + 3) (by omega) (by omega), h (11 * s + 4) (by omega) (by omega), zsolN_c t h 7 s a b]
  refine ⟨u1, u2, u3, u4, u5, u6, fun k c d => ?_⟩
  have hz := zno_b (T (11 * s))
  rw [h (11 * s + 5 + k) (by omega) (by omega)]
  exact u7 k c d
theorem l_333 (w : zW) (d : Nat) {a b : Int} {f : Int → Int} (hb : b ≠ 0) (hab : a ≠ b) (h01 : ∀ p : Int, 0 ≤ p → p < 4096 → 0 ≤ f p ∧ f p ≤ 1) : ∀ (m : Nat) (k : Int) (σ : zMem), 0 ≤ k → k + m = 4096 → (∀ p : Int, 0 ≤ p → p < 4096 → σ a p = f p) →
    zden w d 333 2 [zA 22 4096 a, zA 22 4096 b, zI k] [] σ = some (0, yfm b f k 4096 σ) := by
  intro m
  induction m with
  | zero =>
    intro k σ h0 h hs
    have : k = 4096 := by omega
    subst this
    rw [hX12_copies_2, if_neg (by omega), yfm_e]
  | succ m ih =>
    intro k σ h0 h hs
    have h1 := h01 k h0 (by omega)
    rw [hX12_copies_2, if_pos (by omega), if_pos (by omega), if_pos (by omega), hs k h0 (by omega), za_0, zw32_i (by omega), ih (k + 1) _ (by omega) (by omega) (fun p x y => (zup_f (Or.inl hab)).trans (hs p x y)), yfm_up hb (by omega) (by omega)]
theorem s_333 (w : zW) (d : Nat) {a b : Int} {σ : zMem} (hb : b ≠ 0) (hab : a ≠ b) (h01 : ∀ p : Int, 0 ≤ p → p < 4096 → 0 ≤ σ a p ∧ σ a p ≤ 1) : zcall w d 333 [zA 22 4096 a, zA 22 4096 b] σ = some (0, yfm b (σ a) 0 4096 σ) := by
  rw [eX12_copies, l_333 w d hb hab h01 4096 0 σ (by omega) (by omega) (fun _ _ _ => rfl)]
theorem yr245 (w : zW) {j : Int} (h : 0 ≤ j ∧ j < 12) : zR w 245 j = 246 + j := by
  have : j = 0 ∨ j = 1 ∨ j = 2 ∨ j = 3 ∨ j = 4 ∨ j = 5 ∨ j = 6 ∨ j = 7 ∨ j = 8 ∨ j = 9 ∨ j = 10 ∨ j = 11 := by omega
  rcases this with rfl | rfl | rfl | rfl | rfl | rfl | rfl | rfl | rfl | rfl | rfl | rfl <;> rfl
