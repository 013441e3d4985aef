/-! Call 44: image -/
theorem l_334a (w : zW) (d : Nat) {f : Int → Int} : ∀ (m : Nat) (k : Int) (σ : zMem), 0 ≤ k → k + m = 264 → (∀ p, σ 210 p = f p) → zden w (d + 1) 334 2 [zA 13 32 209, zI k] [] σ = zden w (d + 1) 334 2 [zA 13 32 209, zI 264] [] (yfm 243 f k 264 σ) := by
  intro m
  induction m with
  | zero =>
    intro k σ h0 h hs
    have : k = 264 := by omega
    subst this
    rw [yfm_e]
  | succ m ih =>
    intro k σ h0 h hs
    rw [hX12_image_2, if_pos (by omega), if_pos (by omega), if_pos (by omega), hs k, za_0, zw32_i (by omega), ih (k + 1) _ (by omega) (by omega) (fun p => (zup_f (by omega)).trans (hs p)), yfm_up (by decide) (by omega) rfl]
theorem l_334b (w : zW) (d : Nat) {n : Int} (hn : n ≤ 12) {r : Int → Int} : ∀ (m : Nat) (k : Int) (σ : zMem), 0 ≤ k → k + m = n → σ 209 24 = n → (∀ i, 0 ≤ i → i < n → σ 230 i = r i ∧ 231 ≤ r i ∧ r i ≤ 242) → (∀ i, 0 ≤ i → i < n → ∀ p : Int, 0 ≤ p → p < 4096 → 0 ≤ σ (r i) p ∧ σ (r i) p ≤ 1) →
    ∃ σ', zden w (d + 1) 334 22 [zA 13 32 209, zI k] [] σ = zden w (d + 1) 334 22 [zA 13 32 209, zI n] [] σ' ∧ (∀ a t, ¬ (246 ≤ a ∧ a ≤ 257) → σ' a t = σ a t) ∧ (∀ a t, 246 ≤ a → a < 246 + k → σ' a t = σ a t)
      ∧ ∀ i p : Int, k ≤ i → i < n → 0 ≤ p → p < 4096 → σ' (246 + i) p = σ (r i) p := by
  intro m
  induction m with
  | zero =>
    intro k σ h0 h h1 h2 h3
    have : k = n := by omega
    subst this
    exact ⟨σ, rfl, fun _ _ _ => rfl, fun _ _ _ _ => rfl, fun i p x y => by omega⟩
  | succ m ih =>
    intro k σ h0 h h1 h2 h3
    obtain ⟨u1, u2, u3⟩ := h2 k h0 (by omega)
    have g : ∀ a t, ¬ (a = 246 + k) → yfm (246 + k) (σ (r k)) 0 4096 σ a t = σ a t := fun a t x => yfm_f (by omega)
    obtain ⟨σ', e, f1, f2, f3⟩ := ih (k + 1) (yfm (246 + k) (σ (r k)) 0 4096 σ) (by omega) (by omega) ((g _ _ (by omega)).trans h1) (fun i x y => ⟨(g _ _ (by omega)).trans (h2 i x y).1, (h2 i x y).2⟩)
      (fun i x y p x2 y2 => by have := (h2 i x y).2; rw [g _ _ (by omega)]; exact h3 i x y p x2 y2)
    refine ⟨σ', ?_, fun a t x => ?_, fun a t x y => ?_, fun i p x y x2 y2 => ?_⟩
    · rw [hX12_image_22, h1, if_pos (by omega), if_pos (by omega), if_pos (by omega), yr245 w ⟨h0, by omega⟩, u1, s_333 w d (by omega) (by omega) (h3 k h0 (by omega)), Option.bind_some, za_0, zw32_i (by omega)]
      exact e
    · rw [f1 a t x, g a t (by omega)]
    · rw [f2 a t x (by omega), g a t (by omega)]
    · by_cases c : i = k
      · subst c
        rw [f2 _ _ (by omega) (by omega), yfm_t (by omega)]
      · have := (h2 i (by omega) y).2
        rw [f3 i p (by omega) y x2 y2, g _ _ (by omega)]
theorem op_44 (w : zW) : zOp zInv w 191 334 [] := by
  intro σ hI
  have hn := zI_hn hI
  have h27 := zI_h2 hI
  have hB := hI.2.2.2.2.1
  obtain ⟨hv, hp⟩ := hI.2.2.2.2.1
  have hnc : 0 ≤ σ 209 24 ∧ σ 209 24 ≤ 12 := ⟨hv.2.2.2.2.2.1, hv.2.2.2.2.2.2.1⟩
  -- the class
  obtain ⟨s1, e1, a1, a2, a3, a4⟩ := s_123 w 998 (o := 10) (p := 2) (Or.inl ⟨rfl, rfl⟩) σ
  obtain ⟨s2, e2, b1, b2, b3, b4⟩ := s_9 w (d := 998) (by decide) (o := 46) (p := 18) (Or.inr ⟨rfl, rfl⟩) s1
  obtain ⟨s3, q3⟩ : ∃ s3, s3 = zup (zup s2 1 14 1) 1 15 (σ 209 1) := ⟨_, rfl⟩
  have f3 : ∀ a k, ¬ (10 ≤ a ∧ a ≤ 17) → ¬ (46 ≤ a ∧ a ≤ 73) → ¬ (a = 1 ∧ (k = 14 ∨ k = 15)) → s3 a k = σ a k := fun a k x y z => by
    rw [q3, zup_f (by omega), zup_f (by omega), b1 a k y, a1 a k x]
  have hC : zcall w 999 191 [zA 12 16 1] σ = some (1, s3) := by
    refine (eX11_image w 998 σ).trans ?_
    rw [e1, Option.bind_some]
    dsimp only
    rw [e2, Option.bind_some]
    dsimp only
    rw [eX9_size, Option.bind_some, zup_f (by omega), b1 2 7 (by decide), a1 2 7 (by decide), h27, q3]
  have ff : ∀ a, 74 ≤ a → s3 a = σ a := fun a x => funext fun k => f3 a k (by omega) (by omega) (by omega)
  -- the reference
  obtain ⟨t1, p1⟩ : ∃ t1, t1 = yfm 243 (σ 210) 0 264 s3 := ⟨_, rfl⟩
  obtain ⟨t2, p2⟩ : ∃ t2, t2 = yfm 244 (σ 229) 0 4096 t1 := ⟨_, rfl⟩
  have g2 : ∀ a k, a ≠ 243 → a ≠ 244 → t2 a k = s3 a k := fun a k x y => by rw [p2, yfm_f (by omega), p1, yfm_f (by omega)]
  have g2f : ∀ a, a ≠ 243 → a ≠ 244 → t2 a = s3 a := fun a x y => funext fun k => g2 a k x y
  obtain ⟨t3, e3, c1, c2, c3⟩ := l_334b w 998 (n := σ 209 24) hnc.2 (r := σ 230) (σ 209 24).toNat 0 t2 (by omega) (by omega) (by rw [g2 _ _ (by decide) (by decide), ff 209 (by decide)]) (fun i x y => ⟨by rw [g2 _ _ (by decide) (by decide), ff 230 (by decide)], (hp i x (by omega)).1.1, (hp i x (by omega)).1.2⟩)
    (fun i x y p x2 y2 => by
      have := (hp i x (by omega)).1
      rw [g2 _ _ (by omega) (by omega), ff _ (by omega)]
      exact (hv.2.2.2.2.2.2.2.2.2 i x y).2 p x2 y2)
  have h3f : ∀ a k, ¬ (10 ≤ a ∧ a ≤ 17) → ¬ (46 ≤ a ∧ a ≤ 73) → ¬ (a = 1 ∧ (k = 14 ∨ k = 15)) → a ≠ 243 → a ≠ 244 → ¬ (246 ≤ a ∧ a ≤ 257) → t3 a k = σ a k := fun a k x y z u v u2 => by
    rw [c1 a k u2, g2 a k u v, f3 a k x y z]
  obtain ⟨t4, p4⟩ : ∃ t4, t4 = zup (zup (zup (zup (zup t3 258 0 (σ 209 1)) 258 1 (σ 209 24)) 258 2 (σ 209 25)) 258 3 (σ 209 26)) 209 31 1 := ⟨_, rfl⟩
  have hR : zcall w 999 334 [zA 13 32 209] s3 = some (1, t4) := by
    refine (eX12_image w 998 s3).trans ?_
    rw [l_334a w 998 (f := σ 210) 264 0 s3 (by omega) (by omega) (fun p => by rw [ff 210 (by decide)]), ← p1, hX12_image_2, if_neg (by decide)]
    have e229 : t1 229 = σ 229 := funext fun k => by rw [p1, yfm_f (by omega), ff 229 (by decide)]
    rw [s_333 w 998 (by decide) (by decide) (by rw [e229]; exact hv.2.2.2.2.2.2.2.2.1), Option.bind_some, e229, ← p2]
    dsimp only
    have k24 : t3 209 24 = σ 209 24 := h3f _ _ (by decide) (by decide) (by decide) (by decide) (by decide) (by decide)
    rw [e3, hX12_image_22, k24, if_neg (by omega)]
    have z1 : zup t3 258 0 (t3 209 1) 209 24 = σ 209 24 := (zup_f (by omega)).trans k24
    have k1 : t3 209 1 = σ 209 1 := h3f _ _ (by decide) (by decide) (by decide) (by decide) (by decide) (by decide)
    have k25 : t3 209 25 = σ 209 25 := h3f _ _ (by decide) (by decide) (by decide) (by decide) (by decide) (by decide)
    have k26 : t3 209 26 = σ 209 26 := h3f _ _ (by decide) (by decide) (by decide) (by decide) (by decide) (by decide)
    simp only [zup_f (σ := zup (zup t3 258 0 (σ 209 1)) 258 1 (σ 209 24)) (a := 258) (k := 2) (a' := 209) (Or.inl (by decide)), zup_f (σ := zup t3 258 0 (σ 209 1)) (a := 258) (k := 1) (a' := 209) (Or.inl (by decide)), zup_f (σ := t3) (a := 258) (k := 0) (a' := 209) (Or.inl (by decide)), k1, k24, k25, k26]
    rw [p4]
  have F : ∀ a k, ¬ (10 ≤ a ∧ a ≤ 17) → ¬ (46 ≤ a ∧ a ≤ 73) → ¬ (a = 1 ∧ (k = 14 ∨ k = 15)) → a ≠ 243 → a ≠ 244 → ¬ (246 ≤ a ∧ a ≤ 258) → ¬ (a = 209 ∧ k = 31) → t4 a k = σ a k := fun a k x y z u v u2 u3 => by
    rw [p4, zup_f (by omega), zup_f (by omega), zup_f (by omega), zup_f (by omega), zup_f (by omega), h3f a k x y z u v (by omega)]
  have G : ∀ a k, a ≠ 258 → ¬ (a = 209 ∧ k = 31) → t4 a k = t3 a k := fun a k x y => by
    rw [p4, zup_f (by omega), zup_f (by omega), zup_f (by omega), zup_f (by omega), zup_f (by omega)]
  have m0 : t4 258 0 = σ 209 1 := by rw [p4, zup_f (by omega), zup_f (by omega), zup_f (by omega), zup_f (by omega), zup_t (by omega)]
  have m1 : t4 258 1 = σ 209 24 := by rw [p4, zup_f (by omega), zup_f (by omega), zup_f (by omega), zup_t (by omega)]
  have m2 : t4 258 2 = σ 209 25 := by rw [p4, zup_f (by omega), zup_f (by omega), zup_t (by omega)]
  have m3 : t4 258 3 = σ 209 26 := by rw [p4, zup_f (by omega), zup_t (by omega)]
  have m31 : t4 209 31 = 1 := by rw [p4, zup_t (by omega)]
  have G3 : ∀ a k, a ≤ 208 → t4 a k = s3 a k := fun a k x => by rw [G a k (by omega) (by omega), c1 a k (by omega), g2 a k (by omega) (by omega)]
  have m14 : t4 1 14 = 1 := by rw [G3 _ _ (by decide), q3, zup_f (by omega), zup_t (by omega)]
  have m15 : t4 1 15 = σ 209 1 := by rw [G3 _ _ (by decide), q3, zup_t (by omega)]
  have m243 : ∀ k : Int, 0 ≤ k → k < 11 * σ 209 1 → t4 243 k = σ 210 k := fun k x y => by
    rw [G _ _ (by decide) (by omega), c1 _ _ (by decide), p2, yfm_f (by omega), p1, yfm_t (by omega)]
  have m244 : ∀ p : Int, 0 ≤ p → p < 4096 → t4 244 p = σ 229 p := fun p x y => by
    rw [G _ _ (by decide) (by omega), c1 _ _ (by decide), p2, yfm_t (by omega)]
  have mc : ∀ i : Int, 0 ≤ i → i < σ 209 24 → ∀ p : Int, 0 ≤ p → p < 4096 → t4 (246 + i) p = σ (σ 230 i) p := fun i x y p x2 y2 => by
    have := (hp i x (by omega)).1
    rw [G _ _ (by omega) (by omega), c3 i p x y x2 y2, g2 _ _ (by omega) (by omega), ff _ (by omega)]
  have e210 : t4 210 = σ 210 := funext fun k => F _ _ (by decide) (by decide) (by omega) (by decide) (by decide) (by decide) (by omega)
  have e1' : t4 209 1 = σ 209 1 := F _ _ (by decide) (by decide) (by decide) (by decide) (by decide) (by decide) (by decide)
  refine yop 1 s3 t4 hC hR ?_
  obtain ⟨i0, i1, i2, i3, i4, i5, i6, i7⟩ := hI
  refine ⟨(F _ _ (by decide) (by decide) (by decide) (by decide) (by decide) (by decide) (by decide)).trans i0,
    zI_T_fr (fun a k q => by unfold zsT at q; exact F a k (by omega) (by omega) (by omega) (by omega) (by omega) (by omega) (by omega)) i1,
    zCa_fr i1.1.2.1 (fun a k q => by unfold zsC at q; exact F a k (by omega) (by omega) (by omega) (by omega) (by omega) (by omega) (by omega)) i2, ?_,
    zI_B_fr (fun a k q => by unfold zsB at q; exact F a k (by omega) (by omega) (by omega) (by omega) (by omega) (by omega) (by omega)) i4,
    zI_S_fr (fun a k q => by unfold zsS at q; exact F a k (by omega) (by omega) (by omega) (by omega) (by omega) (by omega) (by omega)) i5,
    zI_R_fr (fun a k q => by unfold zsR at q; exact F a k (by omega) (by omega) (by omega) (by omega) (by omega) (by omega) (by omega)) i6,
    zI_P_fr (fun a k q => by unfold zsP at q; exact F a k (by omega) (by omega) (by omega) (by omega) (by omega) (by omega) (by omega)) i7⟩
  refine ⟨Or.inr m31, by omega, by omega, by omega, fun q => by omega, fun _ => ⟨?_, ?_, by omega, fun k x y => ?_, ?_⟩⟩
  · rw [m0]
    exact zWF_c i1.1 m243
  · rw [m0]
    refine zTb_c i1.1 m243 ?_
    have h1 : zTb 10 s1 (σ 210) (σ 209 1) := zTb_take hn.2 a2 a3 a4 i1.2
    exact zTb_fr (fun a k x y => by rw [G3 a k (by omega), q3, zup_f (by omega), zup_f (by omega), b1 a k (by omega)]) h1
  · rw [e210]
    exact m243 k x (by omega)
  · rw [m1, m2, m3]
    have h1 : zBl 18 s1 (σ 229) (fun i => σ (σ 230 i)) (σ 209 24) (σ 209 25) (σ 209 26) := zBl_fr (fun a k x y => a1 a k (by omega)) hv
    have h2 : zBl 46 s2 (σ 229) (fun i => σ (σ 230 i)) (σ 209 24) (σ 209 25) (σ 209 26) := zBl_take b2 b3 b4 h1
    have h3 : zBl 46 t4 (σ 229) (fun i => σ (σ 230 i)) (σ 209 24) (σ 209 25) (σ 209 26) := zBl_fr (fun a k x y => by rw [G3 a k (by omega), q3, zup_f (by omega), zup_f (by omega)]) h2
    exact zBl_c h3 m244 mc
