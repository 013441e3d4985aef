/-! .. and so do worths, bounds, places; what was found is forgotten -/
theorem zsd_c {k : Int} {N N' : Int → Int} (h : ∀ i : Int, 0 ≤ i → i < 6 → N' i = N i) (x y z : Int) : zsd k N' x y z = zsd k N x y z := by
  unfold zsd
  rw [h 0 (by decide) (by decide), h 1 (by decide) (by decide), h 2 (by decide) (by decide), h 3 (by decide) (by decide), h 4 (by decide) (by decide), h 5 (by decide) (by decide)]
theorem zsb_c {k : Int} {N N' : Int → Int} (h : ∀ i : Int, 0 ≤ i → i < 6 → N' i = N i) (r : zrg) : zsb k N' r = zsb k N r := by
  unfold zsb
  rw [h 0 (by decide) (by decide), h 1 (by decide) (by decide), h 2 (by decide) (by decide), h 3 (by decide) (by decide), h 4 (by decide) (by decide), h 5 (by decide) (by decide)]
theorem zwd_c {T T' : Int → Int} {n : Int} (t : zWF T n) (h : ∀ k : Int, 0 ≤ k → k < 11 * n → T' k = T k) : ∀ (m : Nat) (s x y z : Int), 0 ≤ s → s < n → zwd T' m s x y z = zwd T m s x y z := by
  intro m
  induction m with
  | zero => intro s x y z a b; rfl
  | succ m ih =>
    intro s x y z a b
    have hw := t.2.2 s a b
    have k0 := h (11 * s) (by omega) (by omega)
    have k1 := h (11 * s + 1) (by omega) (by omega)
    have k2 := h (11 * s + 2) (by omega) (by omega)
    have k5 := h (11 * s + 5) (by omega) (by omega)
    have k6 := h (11 * s + 6) (by omega) (by omega)
    have k7 := h (11 * s + 7) (by omega) (by omega)
    rw [zwd, zwd, k0, k1, k2, k5, k6, k7]
    rcases hw.1 with q | q | q
    · have g1 : T (11 * s) ≤ 5 := by omega
      rw [if_pos g1, if_pos g1, zsd_c (fun i x y => h _ (by omega) (by omega))]
    · have g1 : ¬ T (11 * s) ≤ 5 := by omega
      have g2 : T (11 * s) ≤ 11 := by omega
      rw [if_neg g1, if_neg g1, if_pos g2, if_pos g2, ih _ _ _ _ (by omega) (by omega), ih _ _ _ _ (by omega) (by omega)]
    · have g1 : ¬ T (11 * s) ≤ 5 := by omega
      have g2 : ¬ T (11 * s) ≤ 11 := by omega
      rw [if_neg g1, if_neg g1, if_neg g2, if_neg g2, ih _ _ _ _ (by omega) (by omega)]
theorem zbd_c {T T' : Int → Int} {n : Int} (t : zWF T n) (h : ∀ k : Int, 0 ≤ k → k < 11 * n → T' k = T k) : ∀ (m : Nat) (s : Int) (r : zrg), 0 ≤ s → s < n → zbd T' m s r = zbd T m s r := by
  intro m
  induction m with
  | zero => intro s r a b; rfl
  | succ m ih =>
    intro s r a b
    have hw := t.2.2 s a b
    have k0 := h (11 * s) (by omega) (by omega)
    have k1 := h (11 * s + 1) (by omega) (by omega)
    have k2 := h (11 * s + 2) (by omega) (by omega)
    have k5 := h (11 * s + 5) (by omega) (by omega)
    have k6 := h (11 * s + 6) (by omega) (by omega)
    have k7 := h (11 * s + 7) (by omega) (by omega)
    rw [zbd, zbd, k0, k1, k2, k5, k6, k7]
    rcases hw.1 with q | q | q
    · have g1 : T (11 * s) ≤ 5 := by omega
      rw [if_pos g1, if_pos g1, zsb_c (fun i x y => h _ (by omega) (by omega))]
    · have g1 : ¬ T (11 * s) ≤ 5 := by omega
      have g2 : T (11 * s) ≤ 11 := by omega
      rw [if_neg g1, if_neg g1, if_pos g2, if_pos g2, ih _ _ (by omega) (by omega), ih _ _ (by omega) (by omega)]
    · have g1 : ¬ T (11 * s) ≤ 5 := by omega
      have g2 : ¬ T (11 * s) ≤ 11 := by omega
      rw [if_neg g1, if_neg g1, if_neg g2, if_neg g2, ih _ _ (by omega) (by omega)]
theorem zns_c {T T' : Int → Int} {n s : Int} (t : zWF T n) (h : ∀ k : Int, 0 ≤ k → k < 11 * n → T' k = T k) (h0 : 0 ≤ s) (h1 : s < n) : zns T' s = zns T s := by
  funext p
  unfold zns
  rw [zwd_c t h 7 s _ _ _ h0 h1]
theorem zlkN_c {T T' : Int → Int} {n s : Int} (t : zWF T n) (h : ∀ k : Int, 0 ≤ k → k < 11 * n → T' k = T k) (h0 : 0 ≤ s) (h1 : s < n) : ∀ (m : Nat) (x y z : Int), zlkN T' s m x y z = zlkN T s m x y z := by
  intro m
  induction m with
  | zero => intro x y z; rfl
  | succ m ih =>
    intro x y z
    rw [zlkN, zlkN, zbd_c t h 7 s _ h0 h1]
    simp only [ih]
theorem l_36 (w : zW) (d : Nat) : ∀ (m : Nat) (k : Int) (v : zV) (σ : zMem), 0 ≤ k → k + m = 24 → zden w (d + 1) 36 4 [zA 4 5 85, v, zI k] [] σ = some (0, yfm 87 (fun _ => 0) k 24 σ) := by
  intro m
  induction m with
  | zero =>
    intro k v σ h0 h
    have : k = 24 := by omega
    subst this
    rw [hX3_forgetFrom_4, if_neg (by omega), yfm_e]
  | succ m ih =>
    intro k v σ h0 h
    rw [hX3_forgetFrom_4, if_pos (by omega), if_pos (by omega), za_0, zw32_i (by omega), ih (k + 1) _ _ (by omega) (by omega), yfm_up (by decide) (by omega) rfl]
theorem s_36 (w : zW) {d : Nat} (hd : 1 ≤ d) {n : Int} (hn : 0 ≤ n ∧ n ≤ 24) (σ : zMem) : zcall w d 36 [zA 4 5 85, zI n] σ = some (0, yfm 87 (fun _ => 0) n 24 σ) := by
  obtain ⟨d, rfl⟩ : ∃ e, d = e + 1 := ⟨d - 1, by omega⟩
  rw [eX3_forgetFrom, s_341, Option.bind_some, Int.max_eq_right hn.1]
  exact l_36 w d (24 - n).toNat n _ σ hn.1 (by omega)
