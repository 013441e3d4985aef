/-! Call 45: back -/
theorem l_335a (w : zW) (d : Nat) {f : Int → Int} : ∀ (m : Nat) (k : Int) (σ : zMem), 0 ≤ k → k + m = 264 → (∀ p, σ 243 p = f p) → zden w (d + 1) 335 9 [zA 13 32 209, zI k] [] σ = zden w (d + 1) 335 9 [zA 13 32 209, zI 264] [] (yfm 210 f k 264 σ) := by
  intro m
  induction m with
  | zero =>
    intro k σ h0 h hs
    have : k = 264 := by omega
    subst this
    rw [yfm_e]
  | succ m ih =>
    intro k σ h0 h hs
    rw [hX12_back_9, if_pos (by omega), if_pos (by omega), if_pos (by omega), hs k, za_0, zw32_i (by omega), ih (k + 1) _ (by omega) (by omega) (fun p => (zup_f (by omega)).trans (hs p)), yfm_up (by decide) (by omega) rfl]
theorem l_335b (w : zW) (d : Nat) {n : Int} (hn : n ≤ 12) {r : Int → Int} (hr : ∀ i j, 0 ≤ i → i < n → 0 ≤ j → j < n → r i = r j → i = j) : ∀ (m : Nat) (k : Int) (σ : zMem), 0 ≤ k → k + m = n → σ 209 24 = n → (∀ i, 0 ≤ i → i < n → σ 230 i = r i ∧ 231 ≤ r i ∧ r i ≤ 242) → (∀ i, 0 ≤ i → i < n → ∀ p : Int, 0 ≤ p → p < 4096 → 0 ≤ σ (246 + i) p ∧ σ (246 + i) p ≤ 1) →
    ∃ σ', zden w (d + 1) 335 53 [zA 13 32 209, zI k] [] σ = zden w (d + 1) 335 53 [zA 13 32 209, zI n] [] σ' ∧ (∀ a t, ¬ (231 ≤ a ∧ a ≤ 242) → σ' a t = σ a t) ∧ (∀ j t, 0 ≤ j → j < k → σ' (r j) t = σ (r j) t)
      ∧ ∀ i p : Int, k ≤ i → i < n → 0 ≤ p → p < 4096 → σ' (r i) p = σ (246 + i) p := by
  intro m
  induction m with
  | zero =>
    intro k σ h0 h h1 h2 h3
    have : k = n := by omega
    subst this
    exact ⟨σ, rfl, fun _ _ _ => rfl, fun _ _ _ _ => rfl, fun i p x y => by omega⟩
  | succ m ih =>
    intro k σ h0 h h1 h2 h3
    obtain ⟨u1, u2, u3⟩ := h2 k h0 (by omega)
    have g : ∀ a t, ¬ (a = r k) → yfm (r k) (σ (246 + k)) 0 4096 σ a t = σ a t := fun a t x => yfm_f (by omega)
    obtain ⟨σ', e, f1, f2, f3⟩ := ih (k + 1) (yfm (r k) (σ (246 + k)) 0 4096 σ) (by omega) (by omega) ((g _ _ (by omega)).trans h1) (fun i x y => ⟨(g _ _ (by omega)).trans (h2 i x y).1, (h2 i x y).2⟩)
      (fun i x y p x2 y2 => by rw [g _ _ (by omega)]; exact h3 i x y p x2 y2)
    refine ⟨σ', ?_, fun a t x => ?_, fun j t x y => ?_, fun i p x y x2 y2 => ?_⟩
    · rw [hX12_back_53, h1, if_pos (by omega), if_pos (by omega), if_pos (by omega), yr245 w ⟨h0, by omega⟩, u1, s_333 w d (by omega) (by omega) (h3 k h0 (by omega)), Option.bind_some, za_0, zw32_i (by omega)]
      exact e
    · rw [f1 a t x, g a t (by omega)]
    · rw [f2 j t x (by omega), g _ t (fun q => by have := hr j k x (by omega) h0 (by omega) q; omega)]
    · by_cases c : i = k
      · subst c
        rw [f2 _ _ h0 (by omega), yfm_t (by omega)]
      · rw [f3 i p (by omega) y x2 y2, g _ _ (by omega)]
