theorem yr49 (w : zW) {j : Int} (h : 0 ≤ j ∧ j < 12) : zR w 49 j = 50 + 2 * j ∧ zR w (50 + 2 * j) 0 = 51 + 2 * j := by
  have : j = 0 ∨ j = 1 ∨ j = 2 ∨ j = 3 ∨ j = 4 ∨ j = 5 ∨ j = 6 ∨ j = 7 ∨ j = 8 ∨ j = 9 ∨ j = 10 ∨ j = 11 := by omega
  rcases this with rfl | rfl | rfl | rfl | rfl | rfl | rfl | rfl | rfl | rfl | rfl | rfl <;> exact ⟨rfl, rfl⟩
/-- the two blocks' fields -/
theorem yrbl (w : zW) {o : Int} (h : o = 18 ∨ o = 46) : zR w o 0 = o + 1 ∧ zR w (o + 1) 0 = o + 2 ∧ zR w o 1 = o + 3 ∧ ∀ j : Int, 0 ≤ j → j < 12 → zR w (o + 3) j = o + 4 + 2 * j ∧ zR w (o + 4 + 2 * j) 0 = o + 5 + 2 * j := by
  rcases h with rfl | rfl
  · refine ⟨rfl, rfl, rfl, fun j a b => ?_⟩
    have := yr21 w ⟨a, b⟩
    exact ⟨this.1, this.2⟩
  · refine ⟨rfl, rfl, rfl, fun j a b => ?_⟩
    have := yr49 w ⟨a, b⟩
    exact ⟨this.1, this.2⟩
theorem l_9 (w : zW) (d : Nat) {o p : Int} (h : (o = 18 ∧ p = 46) ∨ (o = 46 ∧ p = 18)) : ∀ (m : Nat) (k : Int) (σ : zMem), 0 ≤ k → k + m = 12 → ∃ σ', zden w (d + 1) 9 7 [zA 1 6 o, zA 1 6 p, zI k] [] σ = some (0, σ')
    ∧ (∀ a t, ¬ (a = o ∧ 2 ≤ t ∧ t ≤ 5) → ¬ (o + 5 + 2 * k ≤ a ∧ a ≤ o + 27) → σ' a t = σ a t) ∧ (∀ t, 2 ≤ t → t ≤ 5 → σ' o t = σ p t)
    ∧ ∀ j t : Int, k ≤ j → j < 12 → 0 ≤ t → t < 64 → σ' (o + 5 + 2 * j) t = σ (p + 5 + 2 * j) t := by
  obtain ⟨r1, r2, r3, r4⟩ := yrbl w (o := o) (by omega)
  obtain ⟨s1, s2, s3, s4⟩ := yrbl w (o := p) (by omega)
  intro m
  induction m with
  | zero =>
    intro k σ h0 hk
    have : k = 12 := by omega
    subst this
    refine ⟨_, (hX0_takeFrom_7 w d o p 12 σ).trans (if_neg (by decide)), fun a t x y => ?_, fun t x y => ?_, fun j t x y => by omega⟩
    · rw [zup_f (by omega), zup_f (by omega), zup_f (by omega), zup_f (by omega)]
    · have : t = 2 ∨ t = 3 ∨ t = 4 ∨ t = 5 := by omega
      rcases this with rfl | rfl | rfl | rfl
      · rw [zup_f (by omega), zup_f (by omega), zup_f (by omega), zup_t (by omega)]
      · rw [zup_f (by omega), zup_f (by omega), zup_t (by omega), zup_f (by omega)]
      · rw [zup_f (by omega), zup_t (by omega), zup_f (by omega), zup_f (by omega)]
      · rw [zup_t (by omega), zup_f (by omega), zup_f (by omega), zup_f (by omega)]
  | succ m ih =>
    intro k σ h0 hk
    obtain ⟨u1, u2⟩ := r4 k h0 (by omega)
    obtain ⟨w1, w2⟩ := s4 k h0 (by omega)
    obtain ⟨σ', e, f1, f2, f3⟩ := ih (k + 1) (ywm (o + 5 + 2 * k) (fun t => σ (p + 5 + 2 * k) t) 0 σ) (by omega) (by omega)
    refine ⟨σ', ?_, fun a t x y => ?_, fun t x y => ?_, fun j t x y x2 y2 => ?_⟩
    · rw [hX0_takeFrom_7, if_pos (by omega), if_pos (by omega), if_pos (by omega), r3, s3, u1, w1, s_53 w d (by rw [u2]; omega), u2, w2, Option.bind_some, za_0, zw32_i (by omega)]
      exact e
    · rw [f1 a t x (by omega), ywm_f (by omega)]
    · rw [f2 t x y, ywm_f (by omega)]
    · by_cases g : j = k
      · subst g
        rw [f1 _ _ (by omega) (by omega), ywm_t (by omega)]
      · rw [f3 j t (by omega) y x2 y2, ywm_f (by omega)]
theorem s_9 (w : zW) {d : Nat} (hd : 1 ≤ d) {o p : Int} (h : (o = 18 ∧ p = 46) ∨ (o = 46 ∧ p = 18)) (σ : zMem) : ∃ σ', zcall w d 9 [zA 1 6 o, zA 1 6 p] σ = some (0, σ')
    ∧ (∀ a t, ¬ (o ≤ a ∧ a ≤ o + 27) → σ' a t = σ a t) ∧ (∀ t, 2 ≤ t → t ≤ 5 → σ' o t = σ p t) ∧ (∀ t : Int, 0 ≤ t → t < 64 → σ' (o + 2) t = σ (p + 2) t)
    ∧ ∀ j t : Int, 0 ≤ j → j < 12 → 0 ≤ t → t < 64 → σ' (o + 5 + 2 * j) t = σ (p + 5 + 2 * j) t := by
  obtain ⟨d, rfl⟩ : ∃ e, d = e + 1 := ⟨d - 1, by omega⟩
  obtain ⟨r1, r2, r3, r4⟩ := yrbl w (o := o) (by omega)
  obtain ⟨s1, s2, s3, s4⟩ := yrbl w (o := p) (by omega)
  obtain ⟨σ', e, f1, f2, f3⟩ := l_9 w d h 12 0 (ywm (o + 2) (fun t => σ (p + 2) t) 0 σ) (by omega) (by omega)
  refine ⟨σ', ?_, fun a t x => ?_, fun t x y => ?_, fun t x y => ?_, fun j t x y x2 y2 => ?_⟩
  · rw [eX0_takeFrom, r1, s1, s_53 w d (by rw [r2]; omega), r2, s2, Option.bind_some]
    exact e
  · rw [f1 a t (by omega) (by omega), ywm_f (by omega)]
  · rw [f2 t x y, ywm_f (by omega)]
  · rw [f1 _ _ (by omega) (by omega), ywm_t (by omega)]
  · rw [f3 j t x y x2 y2, ywm_f (by omega)]
theorem zbit_w {σ σ' : zMem} {o o' : Int} (h : ∀ t : Int, 0 ≤ t → t < 64 → σ' o' t = σ o t) {p : Int} (a : 0 ≤ p) (b : p < 4096) : zbit σ' o' p = zbit σ o p := by
  rw [zbit, zbit, h (p / 64) (by omega) (by omega)]
theorem zBl_take {o p : Int} {σ σ' : zMem} {b : Int → Int} {c : Int → Int → Int} {nc na sd : Int} (f2 : ∀ t, 2 ≤ t → t ≤ 5 → σ' o t = σ p t) (f3 : ∀ t : Int, 0 ≤ t → t < 64 → σ' (o + 2) t = σ (p + 2) t)
    (f4 : ∀ j t : Int, 0 ≤ j → j < 12 → 0 ≤ t → t < 64 → σ' (o + 5 + 2 * j) t = σ (p + 5 + 2 * j) t) (h : zBl p σ b c nc na sd) : zBl o σ' b c nc na sd := by
  obtain ⟨v1, v2, v3, v4, v5, v6, v7, v8, v9, v10⟩ := h
  have e2 := f2 2 (by decide) (by decide)
  refine ⟨(f2 3 (by decide) (by decide)).trans v1, (f2 4 (by decide) (by decide)).trans v2, (f2 5 (by decide) (by decide)).trans v3, by omega, by omega, v6, v7, fun q x y => (zbit_w f3 x y).trans (v8 q x y), v9, fun i x y => ?_⟩
  rw [e2]
  exact ⟨fun q x2 y2 => (zbit_w (fun t t0 t1 => f4 _ t (by omega) (by omega) t0 t1) x2 y2).trans ((v10 i x y).1 q x2 y2), (v10 i x y).2⟩
