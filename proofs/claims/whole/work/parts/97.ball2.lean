theorem l_54b (w : zW) (d : Nat) (hd : 1 ≤ d) {x y z r i : Int} (hx : 0 ≤ x ∧ x < 16) (hy : 0 ≤ y ∧ y < 16) (hz : 0 ≤ z ∧ z < 16) (hr : 0 ≤ r ∧ r < 6) (hi : 0 ≤ i ∧ i < 16) :
    ∀ (m : Nat) (j : Int) (v : zV) (σ : zMem), 0 ≤ j → j + m = 16 → ∃ v6 v7 σ', zden w (d + 1) 54 21 [zA 6 1 204, zI x, zI y, zI z, zI r, zI i, zI j, v] [] σ = zden w (d + 1) 54 8 [zA 6 1 204, zI x, zI y, zI z, zI r, zI (i + 1), v6, v7] [] σ'
      ∧ (∀ a t, a ≠ 205 → σ' a t = σ a t) ∧ ∀ q, 0 ≤ q → q < 4096 → (zbit σ' 205 q = true ↔ zbit σ 205 q = true ∨ (q / 256 = i ∧ j ≤ q / 16 % 16 ∧ yib x y z r i (q / 16 % 16) (q % 16))) := by
  have ey : zar 0 y r = y + r := by rw [za_0, zw32_i (by omega)]
  have ez : zar 1 z r = z - r := by rw [za_1, zw32_i (by omega)]
  have ei : zar 0 i 1 = i + 1 := by rw [za_0, zw32_i (by omega)]
  intro m
  induction m with
  | zero =>
    intro j v σ h0 h
    refine ⟨zI j, v, σ, ?_, fun _ _ _ => rfl, fun q a b => ⟨Or.inl, fun u => ?_⟩⟩
    · rw [hX5_becomeBall_21, ey, s_343, Option.bind_some]
      dsimp only
      rw [if_pos (by omega), ei]
    · rcases u with u | u
      · exact u
      · omega
  | succ m ih =>
    intro j v σ h0 h
    rw [hX5_becomeBall_21, ey, s_343, Option.bind_some]
    dsimp only
    by_cases c : y + r < j
    · refine ⟨zI j, v, σ, ?_, fun _ _ _ => rfl, fun q a b => ⟨Or.inl, fun u => ?_⟩⟩
      · rw [if_pos (by omega), ei]
      · rcases u with u | u
        · exact u
        · have := yib_z hr.1 u.2.2
          omega
    · rw [if_neg (by omega), ez, s_341, Option.bind_some]
      dsimp only
      obtain ⟨va, σa, ea, fa1, fa2⟩ := l_54c w d hd hx hy hz hr hi (j := j) (by omega) (16 - max 0 (z - r)).toNat (max 0 (z - r)) σ (by omega) (by omega)
      obtain ⟨v6, v7, σ', e, f1, f2⟩ := ih (j + 1) va σa (by omega) (by omega)
      refine ⟨v6, v7, σ', ea.trans e, fun a t q => (f1 a t q).trans (fa1 a t q), fun q a b => ?_⟩
      rw [f2 q a b, fa2 q a b]
      constructor
      · rintro ((u | u) | u)
        · exact Or.inl u
        · exact Or.inr ⟨u.1, by omega, by rw [u.2.1]; exact u.2.2.2⟩
        · exact Or.inr ⟨u.1, by omega, u.2.2⟩
      · rintro (u | u)
        · exact Or.inl (Or.inl u)
        · by_cases g : q / 16 % 16 = j
          · have g2 := u.2.2
            rw [g] at g2
            have := yib_z hr.1 g2
            exact Or.inl (Or.inr ⟨u.1, g, by omega, g2⟩)
          · exact Or.inr ⟨u.1, by omega, u.2.2⟩
theorem l_54a (w : zW) (d : Nat) (hd : 1 ≤ d) {x y z r : Int} (hx : 0 ≤ x ∧ x < 16) (hy : 0 ≤ y ∧ y < 16) (hz : 0 ≤ z ∧ z < 16) (hr : 0 ≤ r ∧ r < 6) :
    ∀ (m : Nat) (i : Int) (v6 v7 : zV) (σ : zMem), 0 ≤ i → i + m = 16 → ∃ σ', zden w (d + 1) 54 8 [zA 6 1 204, zI x, zI y, zI z, zI r, zI i, v6, v7] [] σ = some (0, σ')
      ∧ (∀ a t, a ≠ 205 → σ' a t = σ a t) ∧ ∀ q, 0 ≤ q → q < 4096 → (zbit σ' 205 q = true ↔ zbit σ 205 q = true ∨ (i ≤ q / 256 ∧ yib x y z r (q / 256) (q / 16 % 16) (q % 16))) := by
  have ex : zar 0 x r = x + r := by rw [za_0, zw32_i (by omega)]
  have ey : zar 1 y r = y - r := by rw [za_1, zw32_i (by omega)]
  intro m
  induction m with
  | zero =>
    intro i v6 v7 σ h0 h
    refine ⟨σ, ?_, fun _ _ _ => rfl, fun q a b => ⟨Or.inl, fun u => ?_⟩⟩
    · rw [hX5_becomeBall_8, ex, s_343, Option.bind_some]
      dsimp only
      rw [if_pos (by omega)]
    · rcases u with u | u
      · exact u
      · omega
  | succ m ih =>
    intro i v6 v7 σ h0 h
    rw [hX5_becomeBall_8, ex, s_343, Option.bind_some]
    dsimp only
    by_cases c : x + r < i
    · refine ⟨σ, ?_, fun _ _ _ => rfl, fun q a b => ⟨Or.inl, fun u => ?_⟩⟩
      · rw [if_pos (by omega)]
      · rcases u with u | u
        · exact u
        · have := yib_z hr.1 u.2
          omega
    · rw [if_neg (by omega), ey, s_341, Option.bind_some]
      dsimp only
      obtain ⟨va, vb, σa, ea, fa1, fa2⟩ := l_54b w d hd hx hy hz hr (i := i) (by omega) (16 - max 0 (y - r)).toNat (max 0 (y - r)) v7 σ (by omega) (by omega)
      obtain ⟨σ', e, f1, f2⟩ := ih (i + 1) va vb σa (by omega) (by omega)
      refine ⟨σ', ea.trans e, fun a t q => (f1 a t q).trans (fa1 a t q), fun q a b => ?_⟩
      rw [f2 q a b, fa2 q a b]
      constructor
      · rintro ((u | u) | u)
        · exact Or.inl u
        · exact Or.inr ⟨by omega, by rw [u.1]; exact u.2.2⟩
        · exact Or.inr ⟨by omega, u.2⟩
      · rintro (u | u)
        · exact Or.inl (Or.inl u)
        · by_cases g : q / 256 = i
          · have g2 := u.2
            rw [g] at g2
            have := yib_z hr.1 g2
            exact Or.inl (Or.inr ⟨g, by omega, g2⟩)
          · exact Or.inr ⟨by omega, u.2⟩
theorem s_54 (w : zW) {d : Nat} (hd : 2 ≤ d) {x y z r : Int} (hx : 0 ≤ x ∧ x < 16) (hy : 0 ≤ y ∧ y < 16) (hz : 0 ≤ z ∧ z < 16) (hr : 0 ≤ r ∧ r < 6) (σ : zMem) :
    ∃ σ', zcall w d 54 [zA 6 1 204, zI x, zI y, zI z, zI r] σ = some (0, σ') ∧ (∀ a t, a ≠ 205 → σ' a t = σ a t)
      ∧ ∀ q, 0 ≤ q → q < 4096 → (zbit σ' 205 q = true ↔ yib x y z r (q / 256) (q / 16 % 16) (q % 16)) := by
  obtain ⟨d, rfl⟩ : ∃ e, d = e + 1 := ⟨d - 1, by omega⟩
  have r1 : zR w 204 0 = 205 := rfl
  have ex : zar 1 x r = x - r := by rw [za_1, zw32_i (by omega)]
  obtain ⟨σ', e, f1, f2⟩ := l_54a w d (by omega) hx hy hz hr (16 - max 0 (x - r)).toNat (max 0 (x - r)) zU zU (ywm 205 (fun _ => 0) 0 σ) (by omega) (by omega)
  refine ⟨σ', ?_, fun a t q => (f1 a t q).trans (ywm_f (by omega)), fun q a b => ?_⟩
  · rw [eX5_becomeBall, s_52 w d (by rw [r1]; decide), Option.bind_some, r1]
    dsimp only
    rw [ex, s_341, Option.bind_some]
    exact e
  · have h0 : zbit (ywm 205 (fun _ => 0) 0 σ) 205 q = false := by rw [zbit_wm ⟨a, b⟩]; simp [zu64]
    rw [f2 q a b, h0]
    constructor
    · rintro (u | u)
      · cases u
      · exact u.2
    · intro u
      have := yib_z hr.1 u
      exact Or.inr ⟨by omega, u⟩
