/-! What numbers a kind may have: the reference's question -/
noncomputable def ytm (k i v f : Int) : Int := @zt (zmay k i v f) (Classical.propDecidable _)
theorem ytm_p {k i v f : Int} (h : zmay k i v f) : ytm k i v f = 1 := if_pos h
theorem ytm_n {k i v f : Int} (h : ¬ zmay k i v f) : ytm k i v f = 0 := if_neg h
theorem ytm_z {P : Prop} [Decidable P] {k i v f : Int} (h : zmay k i v f ↔ P) : zt P = ytm k i v f := by
  by_cases c : P
  · rw [zt_p c, ytm_p (h.mpr c)]
  · rw [zt_n c, ytm_n (fun q => c (h.mp q))]
theorem s_274 (w : zW) {d : Nat} (hd : 1 ≤ d) {k i : Int} (v f : Int) (hk : (3 ≤ k ∧ k ≤ 5) ∨ (11 ≤ k ∧ k ≤ 17)) (σ : zMem) : zcall w d 274 [zI k, zI i, zI v, zI f] σ = some (ytm k i v f, σ) := by
  obtain ⟨d, rfl⟩ : ∃ e, d = e + 1 := ⟨d - 1, by omega⟩
  have : k = 3 ∨ k = 4 ∨ k = 5 ∨ k = 11 ∨ k = 12 ∨ k = 13 ∨ k = 14 ∨ k = 15 ∨ k = 16 ∨ k = 17 := by omega
  rw [eX12_isNumber]
  rcases this with rfl | rfl | rfl | rfl | rfl | rfl | rfl | rfl | rfl | rfl
  · simp only [hX12_isNumber_2, s_213, Option.bind_some, zt_01]
    by_cases c : i = 3
    · simp only [if_pos c]
      rw [← ytm_z (P := 0 ≤ v ∧ v ≤ 40) (by simp [zmay, c])]
      rfl
    · simp only [if_neg c]
      rw [← ytm_z (P := -40 ≤ v ∧ v ≤ 55) (by simp [zmay, c])]
      rfl
  · simp only [hX12_isNumber_17, s_213, Option.bind_some, zt_01]
    by_cases c : i < 3
    · simp only [if_pos c]
      rw [← ytm_z (P := -40 ≤ v ∧ v ≤ 55) (by simp [zmay, c])]
      rfl
    · simp only [if_neg c]
      rw [← ytm_z (P := f ≤ v ∧ v ≤ 55) (by simp [zmay, c])]
      rfl
  · simp only [hX12_isNumber_29, s_213, Option.bind_some, zt_01]
    by_cases c : i = 3
    · simp only [if_pos c]
      rw [← ytm_z (P := -999 ≤ v ∧ v ≤ 999) (by simp [zmay, c])]
      rfl
    · simp only [if_neg c]
      rw [← ytm_z (P := -9 ≤ v ∧ v ≤ 9) (by simp [zmay, c])]
      rfl
  · simp only [hX12_isNumber_44, s_213, Option.bind_some, zt_01]
    by_cases c : i = 0
    · simp only [if_pos c]
      rw [← ytm_z (P := 1 ≤ v ∧ v ≤ 9) (by simp [zmay, c])]
      rfl
    · simp only [if_neg c]
      rw [← ytm_z (P := 0 ≤ v ∧ v ≤ f) (by simp [zmay, c])]
      rfl
  · simp only [hX12_isNumber_59, s_213, Option.bind_some, zt_01]
    rw [← ytm_z (P := -40 ≤ v ∧ v ≤ 55) (by simp [zmay])]
    rfl
  · simp only [hX12_isNumber_65, s_213, Option.bind_some, zt_01]
    by_cases c : i = 0
    · simp only [if_pos c]
      rw [← ytm_z (P := 0 ≤ v ∧ v ≤ 2) (by simp [zmay, c])]
      rfl
    · simp only [if_neg c]
      rw [← ytm_z (P := 1 ≤ v ∧ v ≤ 16) (by simp [zmay, c])]
      rfl
  · simp only [hX12_isNumber_79, s_213, Option.bind_some, zt_01]
    by_cases c : i = 0
    · simp only [if_pos c]
      rw [← ytm_z (P := 0 ≤ v ∧ v ≤ 2) (by simp [zmay, c])]
      rfl
    · simp only [if_neg c]
      rw [← ytm_z (P := 0 ≤ v ∧ v ≤ 15) (by simp [zmay, c])]
      rfl
  · simp only [hX12_isNumber_93, s_213, Option.bind_some, zt_if]
    rw [← ytm_z (P := (0 ≤ v ∧ v ≤ 2) ∧ (i = 0 ∨ v ≠ f)) (by simp [zmay])]
    show (if (0 : Int) ≤ v ∧ v ≤ 2 then if i = 0 then some (1, σ) else if v = f then some (0, σ) else some (1, σ) else some (0, σ)) = _
    by_cases c : 0 ≤ v ∧ v ≤ 2
    · rw [if_pos c]
      by_cases c1 : i = 0
      · rw [if_pos c1, zt_p ⟨c, Or.inl c1⟩]
      · rw [if_neg c1]
        by_cases c2 : v = f
        · rw [if_pos c2, zt_n (fun q => q.2.elim c1 (fun g => g c2))]
        · rw [if_neg c2, zt_p ⟨c, Or.inr c2⟩]
    · rw [if_neg c, zt_n (fun q => c q.1)]
  · simp only [hX12_isNumber_108, s_213, Option.bind_some, zt_01]
    by_cases c : i = 1
    · simp only [if_pos c]
      rw [← ytm_z (P := 1 ≤ v ∧ v ≤ 9) (by simp [zmay, c])]
      rfl
    · simp only [if_neg c]
      rw [← ytm_z (P := -99 ≤ v ∧ v ≤ 99) (by simp [zmay, c])]
      rfl
  · simp only [hX12_isNumber_108, s_213, Option.bind_some, zt_01]
    by_cases c : i = 1
    · simp only [if_pos c]
      rw [← ytm_z (P := 1 ≤ v ∧ v ≤ 9) (by simp [zmay, c])]
      rfl
    · simp only [if_neg c]
      rw [← ytm_z (P := 0 ≤ v ∧ v ≤ 99) (by simp [zmay, c])]
      rfl
