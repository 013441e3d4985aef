section
/-! Call 9, shape: how the reference keeps what it has read -/
theorem l_41 (w : zW) {e : Nat} {k x2 x3 : Int} (hk : 0 ≤ k ∧ k < 70) : ∀ (m : Nat) (i : Int) (σ : zMem), 0 ≤ i → i + m = 6 →
    ∃ σ', zden w (e + 1) 304 41 [zA 13 32 209, zI k, zI x2, zI x3, zI 759, zI i, zU, zU, zU, zU, zU] [] σ = zden w (e + 1) 304 41 [zA 13 32 209, zI k, zI x2, zI x3, zI 759, zI 6, zU, zU, zU, zU, zU] [] σ' ∧ (∀ j, i ≤ j → j < 6 → σ' 225 (6 * k + j) = σ 224 (759 + j)) ∧ ∀ c t, (c ≠ 225 ∨ t < 6 * k + i ∨ 6 * k + 6 ≤ t) → σ' c t = σ c t := by
  intro m
  induction m with
  | zero =>
    intro i σ h0 h
    have : i = 6 := by omega
    subst this
    exact ⟨σ, rfl, fun j x y => by omega, fun _ _ _ => rfl⟩
  | succ m ih =>
    intro i σ h0 h
    have e1 : zar 0 i 1 = i + 1 := by rw [za_0, zw32_i (by omega)]
    have e2 : zar 0 759 i = 759 + i := by rw [za_0, zw32_i (by omega)]
    have e3 : zar 0 (zar 2 6 k) i = 6 * k + i := by rw [za_2, zw32_i (by omega), za_0, zw32_i (by omega)]
    obtain ⟨σ', k1, k2, k3⟩ := ih (i + 1) (zup σ 225 (6 * k + i) (σ 224 (759 + i))) (by omega) (by omega)
    refine ⟨σ', ?_, fun j x y => ?_, fun c t u => ?_⟩
    · rw [hX12_shapeRead_41, if_pos (by omega), e2, if_pos (by omega), e3, if_pos (by omega), e1]
      exact k1
    · by_cases c : j = i
      · rw [c, k3 _ _ (by omega), zup_t ⟨rfl, rfl, by decide⟩]
      · rw [k2 j (by omega) y, zup_f (by omega)]
    · rw [k3 _ _ (by omega), zup_f (by omega)]
theorem l_226 (w : zW) {e : Nat} {k r : Int} {v2 v3 v4 v5 v6 v7 v8 : zV} (hk : 0 ≤ k ∧ k < 70) (hr : 0 ≤ r ∧ r < 69) : ∀ (m : Nat) (i : Int) (σ : zMem), 0 ≤ i → i + m = 6 → σ 209 17 = r →
    ∃ σ', zden w (e + 1) 304 226 [zA 13 32 209, zI k, v2, v3, v4, v5, v6, v7, v8, zI (11 * r), zI i] [] σ = some (r, σ') ∧ σ' 209 17 = r + 1 ∧ (∀ j, i ≤ j → j < 6 → σ' 224 (11 * r + 5 + j) = σ 225 (6 * k + j)) ∧ ∀ c t, (c ≠ 224 ∨ t < 11 * r + 5 + i ∨ 11 * r + 11 ≤ t) → (c ≠ 209 ∨ t ≠ 17) → σ' c t = σ c t := by
  intro m
  induction m with
  | zero =>
    intro i σ h0 h e17
    have e1 : zar 0 r 1 = r + 1 := by rw [za_0, zw32_i (by omega)]
    have e2 : zar 1 (r + 1) 1 = r := by rw [za_1, zw32_i (by omega)]; omega
    refine ⟨zup σ 209 17 (r + 1), ?_, zup_t ⟨rfl, rfl, by decide⟩, fun j x y => by omega, fun c t u v => zup_f (by omega)⟩
    rw [hX12_shapeRead_226, if_neg (by omega), e17, e1, zup_t ⟨rfl, rfl, by decide⟩, e2]
  | succ m ih =>
    intro i σ h0 h e17
    have e1 : zar 0 i 1 = i + 1 := by rw [za_0, zw32_i (by omega)]
    have e2 : zar 0 (zar 2 6 k) i = 6 * k + i := by rw [za_2, zw32_i (by omega), za_0, zw32_i (by omega)]
    have e3 : zar 0 (zar 0 (11 * r) 5) i = 11 * r + 5 + i := by rw [za_0 (11 * r), zw32_i (by omega), za_0, zw32_i (by omega)]
    obtain ⟨σ', k1, k2, k3, k4⟩ := ih (i + 1) (zup σ 224 (11 * r + 5 + i) (σ 225 (6 * k + i))) (by omega) (by omega) ((zup_f (by omega)).trans e17)
    refine ⟨σ', ?_, k2, fun j x y => ?_, fun c t u v => ?_⟩
    · rw [hX12_shapeRead_226, if_pos (by omega), e2, if_pos (by omega), e3, if_pos (by omega), e1]
      exact k1
    · by_cases c : j = i
      · rw [c, k4 _ _ (by omega) (by omega), zup_t ⟨rfl, rfl, by decide⟩]
      · rw [k3 j (by omega) y, zup_f (by omega)]
    · rw [k4 _ _ (by omega) v, zup_f (by omega)]
theorem l_186 (w : zW) {e : Nat} {k r x3 x5 x6 x7 x8 : Int} {v2 v4 : zV} {σ : zMem} (hk : 0 ≤ k ∧ k < 70) (hr : 0 ≤ r ∧ r < 69) (e17 : σ 209 17 = r) :
    ∃ σ', zden w (e + 1) 304 186 [zA 13 32 209, zI k, v2, zI x3, v4, zI x5, zI x6, zI x7, zI x8, zU, zU] [] σ = some (r, σ') ∧ σ' 209 17 = r + 1 ∧ σ' 224 (11 * r) = x3 ∧ σ' 224 (11 * r + 1) = x5 ∧ σ' 224 (11 * r + 2) = x6 ∧ σ' 224 (11 * r + 3) = x7 ∧ σ' 224 (11 * r + 4) = x8 ∧ (∀ j, 0 ≤ j → j < 6 → σ' 224 (11 * r + 5 + j) = σ 225 (6 * k + j)) ∧ ∀ c t, (c ≠ 224 ∨ t < 11 * r ∨ 11 * r + 11 ≤ t) → (c ≠ 209 ∨ t ≠ 17) → σ' c t = σ c t := by
  have e0 : zar 2 11 r = 11 * r := by rw [za_2, zw32_i (by omega)]
  have ea : ∀ j : Int, 0 ≤ j → j < 6 → zar 0 (11 * r) j = 11 * r + j := fun j x y => by rw [za_0, zw32_i (by omega)]
  obtain ⟨μ, hμ⟩ : ∃ μ, μ = zup (zup (zup (zup (zup σ 224 (11 * r) x3) 224 (11 * r + 1) x5) 224 (11 * r + 2) x6) 224 (11 * r + 3) x7) 224 (11 * r + 4) x8 := ⟨_, rfl⟩
  have fμ : ∀ c t, (c ≠ 224 ∨ t < 11 * r ∨ 11 * r + 5 ≤ t) → μ c t = σ c t := fun c t u => by rw [hμ, zup_f (by omega), zup_f (by omega), zup_f (by omega), zup_f (by omega), zup_f (by omega)]
  obtain ⟨σ', k1, k2, k3, k4⟩ := l_226 w (e := e) (v2 := v2) (v3 := zI x3) (v4 := v4) (v5 := zI x5) (v6 := zI x6) (v7 := zI x7) (v8 := zI x8) hk hr 6 0 μ (by decide) (by decide) ((fμ _ _ (by omega)).trans e17)
  refine ⟨σ', ?_, k2, ?_, ?_, ?_, ?_, ?_, fun j x y => ?_, fun c t u v => ?_⟩
  · rw [hX12_shapeRead_186, e17, e0, ea 1 (by decide) (by decide), ea 2 (by decide) (by decide), ea 3 (by decide) (by decide), ea 4 (by decide) (by decide), if_pos (by omega), if_pos (by omega), if_pos (by omega), if_pos (by omega), if_pos (by omega), ← hμ]
    exact k1
  · rw [k4 _ _ (by omega) (by omega), hμ, zup_f (by omega), zup_f (by omega), zup_f (by omega), zup_f (by omega), zup_t ⟨rfl, rfl, by decide⟩]
  · rw [k4 _ _ (by omega) (by omega), hμ, zup_f (by omega), zup_f (by omega), zup_f (by omega), zup_t ⟨rfl, rfl, by decide⟩]
  · rw [k4 _ _ (by omega) (by omega), hμ, zup_f (by omega), zup_f (by omega), zup_t ⟨rfl, rfl, by decide⟩]
  · rw [k4 _ _ (by omega) (by omega), hμ, zup_f (by omega), zup_t ⟨rfl, rfl, by decide⟩]
  · rw [k4 _ _ (by omega) (by omega), hμ, zup_t ⟨rfl, rfl, by decide⟩]
  · rw [k3 j x y, fμ _ _ (by omega)]
  · rw [k4 _ _ (by omega) v, fμ _ _ (by omega)]
/-- how deep, how many blends the reference finds -/
def qDe (R : Int → Int) (k p q : Int) : Int := if k ≤ 5 then 0 else 1 + max (R (11 * p + 3)) (if q < 0 then 0 else R (11 * q + 3))
def qBl (R : Int → Int) (k p q : Int) : Int := (if k ≤ 5 then 0 else max (R (11 * p + 4)) (if q < 0 then 0 else R (11 * q + 4))) + (if k = 11 then 1 else 0)
theorem l_107 (w : zW) {e : Nat} {k x2 x3 p q : Int} {v4 : zV} {σ : zMem} (h3 : 3 ≤ x3) (hp : 5 < x3 → (0 ≤ p ∧ p < 69) ∧ (0 ≤ σ 224 (11 * p + 3) ∧ σ 224 (11 * p + 3) ≤ 6) ∧ 0 ≤ σ 224 (11 * p + 4) ∧ σ 224 (11 * p + 4) ≤ 2) (hq : 5 < x3 → q = -1 ∨ ((0 ≤ q ∧ q < 69) ∧ (0 ≤ σ 224 (11 * q + 3) ∧ σ 224 (11 * q + 3) ≤ 6) ∧ 0 ≤ σ 224 (11 * q + 4) ∧ σ 224 (11 * q + 4) ≤ 2)) :
    zden w (e + 1) 304 107 [zA 13 32 209, zI k, zI x2, zI x3, v4, zI p, zI q, zU, zU, zU, zU] [] σ = if 6 < qDe (σ 224) x3 p q ∨ 2 < qBl (σ 224) x3 p q then some (-1, zup σ 209 13 x2) else if 5 < x3 then (zcall w e 300 [zA 13 32 209] σ).bind (fun r1 => zden w (e + 1) 304 186 [zA 13 32 209, zI k, zI x2, zI x3, v4, zI p, zI q, zI (qDe (σ 224) x3 p q), zI (qBl (σ 224) x3 p q), zU, zU] [] r1.2) else zden w (e + 1) 304 186 [zA 13 32 209, zI k, zI x2, zI x3, v4, zI p, zI q, zI (qDe (σ 224) x3 p q), zI (qBl (σ 224) x3 p q), zU, zU] [] σ := by
  have ea : ∀ s j : Int, 0 ≤ s → s < 69 → 0 ≤ j → j < 11 → zar 0 (zar 2 11 s) j = 11 * s + j := fun s j a b c d => by rw [za_2, zw32_i (by omega), za_0, zw32_i (by omega)]
  have bk : (if x3 = 11 then (1 : Int) else 0) = 0 ∨ (if x3 = 11 then (1 : Int) else 0) = 1 := by split <;> omega
  have fin : ∀ de bl s0 : Int, 0 ≤ s0 → s0 ≤ 2 → bl = s0 + (if x3 = 11 then 1 else 0) → zden w (e + 1) 304 162 [zA 13 32 209, zI k, zI x2, zI x3, v4, zI p, zI q, zI de, zU, zU, zU] [zI s0] σ = if 6 < de ∨ 2 < bl then some (-1, zup σ 209 13 x2) else if 5 < x3 then (zcall w e 300 [zA 13 32 209] σ).bind (fun r1 => zden w (e + 1) 304 186 [zA 13 32 209, zI k, zI x2, zI x3, v4, zI p, zI q, zI de, zI bl, zU, zU] [] r1.2) else zden w (e + 1) 304 186 [zA 13 32 209, zI k, zI x2, zI x3, v4, zI p, zI q, zI de, zI bl, zU, zU] [] σ := by
    intro de bl s0 a b hbl
    have go : ∀ s1 : Int, s1 = (if x3 = 11 then 1 else 0) → zden w (e + 1) 304 168 [zA 13 32 209, zI k, zI x2, zI x3, v4, zI p, zI q, zI de, zU, zU, zU] [zI s1, zI s0] σ = if 6 < de ∨ 2 < bl then some (-1, zup σ 209 13 x2) else if 5 < x3 then (zcall w e 300 [zA 13 32 209] σ).bind (fun r1 => zden w (e + 1) 304 186 [zA 13 32 209, zI k, zI x2, zI x3, v4, zI p, zI q, zI de, zI bl, zU, zU] [] r1.2) else zden w (e + 1) 304 186 [zA 13 32 209, zI k, zI x2, zI x3, v4, zI p, zI q, zI de, zI bl, zU, zU] [] σ := by
      intro s1 hs
      have eb : zar 0 s0 s1 = bl := by rw [za_0, zw32_i (by omega), hbl, hs]
      rw [hX12_shapeRead_168, eb]
      by_cases c1 : 6 < de
      · rw [if_pos c1, if_pos (Or.inl c1), hX12_shapeRead_176]
      · rw [if_neg c1]
        by_cases c2 : 2 < bl
        · rw [if_pos c2, if_pos (Or.inr c2), hX12_shapeRead_176]
        · rw [if_neg c2, if_neg (show ¬ (6 < de ∨ 2 < bl) by omega)]
    rw [hX12_shapeRead_162]
    by_cases c : x3 = 11
    · rw [if_pos c]; exact go 1 (by rw [if_pos c])
    · rw [if_neg c]; exact go 0 (by rw [if_neg c])
  rw [hX12_shapeRead_107]
  by_cases c5 : 5 < x3
  · have n5 : ¬ x3 ≤ 5 := by omega
    obtain ⟨p0, p3, p4⟩ := hp c5
    rw [if_pos c5, ea p 3 p0.1 p0.2 (by decide) (by decide), if_pos (by omega)]
    rcases hq c5 with rfl | ⟨q0, q3, q4⟩
    · have d1 : zar 0 1 (max (σ 224 (11 * p + 3)) 0) = qDe (σ 224) x3 p (-1) := by unfold qDe; rw [if_neg n5, if_pos (by decide), za_0, zw32_i (by omega)]
      rw [if_pos (by decide), hX12_shapeRead_133, s_341, Option.bind_some]
      dsimp only
      rw [d1, hX12_shapeRead_135, if_pos c5, ea p 4 p0.1 p0.2 (by decide) (by decide), if_pos (by omega), if_pos (by decide), hX12_shapeRead_161, s_341, Option.bind_some]
      dsimp only
      exact fin _ _ _ (by omega) (by omega) (by unfold qBl; rw [if_neg n5, if_pos (by decide)])
    · have nq : ¬ q < 0 := by omega
      have d1 : zar 0 1 (max (σ 224 (11 * p + 3)) (σ 224 (11 * q + 3))) = qDe (σ 224) x3 p q := by unfold qDe; rw [if_neg n5, if_neg nq, za_0, zw32_i (by omega)]
      rw [if_neg nq, ea q 3 q0.1 q0.2 (by decide) (by decide), if_pos (by omega), hX12_shapeRead_133, s_341, Option.bind_some]
      dsimp only
      rw [d1, hX12_shapeRead_135, if_pos c5, ea p 4 p0.1 p0.2 (by decide) (by decide), if_pos (by omega), if_neg nq, ea q 4 q0.1 q0.2 (by decide) (by decide), if_pos (by omega), hX12_shapeRead_161, s_341, Option.bind_some]
      dsimp only
      exact fin _ _ _ (by omega) (by omega) (by unfold qBl; rw [if_neg n5, if_neg nq])
  · have y5 : x3 ≤ 5 := by omega
    rw [if_neg c5, hX12_shapeRead_135, if_neg c5]
    have e1 : qDe (σ 224) x3 p q = 0 := if_pos y5
    rw [e1]
    have := fin 0 (qBl (σ 224) x3 p q) 0 (by decide) (by decide) (by unfold qBl; rw [if_pos y5])
    rw [if_neg c5] at this ⊢
    exact this
end
