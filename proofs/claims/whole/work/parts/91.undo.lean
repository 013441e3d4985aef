/-! Call 38: undo -/
theorem yr21 (w : zW) {j : Int} (h : 0 ≤ j ∧ j < 12) : zR w 21 j = 22 + 2 * j ∧ zR w (22 + 2 * j) 0 = 23 + 2 * j := by
  have : j = 0 ∨ j = 1 ∨ j = 2 ∨ j = 3 ∨ j = 4 ∨ j = 5 ∨ j = 6 ∨ j = 7 ∨ j = 8 ∨ j = 9 ∨ j = 10 ∨ j = 11 := by omega
  rcases this with rfl | rfl | rfl | rfl | rfl | rfl | rfl | rfl | rfl | rfl | rfl | rfl <;> exact ⟨rfl, rfl⟩
theorem yxor01 {x y : Int} (hx : 0 ≤ x ∧ x ≤ 1) (hy : 0 ≤ y ∧ y ≤ 1) : zar 8 x y = if x = y then 0 else 1 := by
  have hx' : x = 0 ∨ x = 1 := by omega
  have hy' : y = 0 ∨ y = 1 := by omega
  rw [za_8]
  rcases hx' with rfl | rfl <;> rcases hy' with rfl | rfl <;> decide +kernel
/-- the block after a carving is told back -/
def yundo (b c : Int → Int) (p : Int) : Int := if b p = c p then 0 else 1
theorem l_325 (w : zW) (d : Nat) {b c : Int → Int} {n o : Int} (hb : ∀ p : Int, 0 ≤ p → p < 4096 → 0 ≤ b p ∧ b p ≤ 1) (hc : ∀ p : Int, 0 ≤ p → p < 4096 → 0 ≤ c p ∧ c p ≤ 1) (hn : 0 ≤ n ∧ n < 12) (ho : o ≠ 229 ∧ o ≠ 230 ∧ o ≠ 209) :
    ∀ (m : Nat) (k : Int) (σ : zMem), 0 ≤ k → k + m = 4096 → (∀ p, k ≤ p → p < 4096 → σ 229 p = b p) → σ 209 24 = n → σ 230 n = o → σ o = c →
    zden w (d + 1) 325 15 [zA 13 32 209, zI k] [] σ = some (n, yfm 229 (yundo b c) k 4096 σ) := by
  intro m
  induction m with
  | zero =>
    intro k σ h0 h hs hs2 hs3 hs4
    have : k = 4096 := by omega
    subst this
    rw [hX12_undo_15, if_neg (by omega), yfm_e, hs2]
  | succ m ih =>
    intro k σ h0 h hs hs2 hs3 hs4
    have e0 := hs k (by omega) (by omega)
    have e1 := hb k (by omega) (by omega)
    have e2 := hc k (by omega) (by omega)
    have e3 : zar 8 (b k) (c k) % 2 = yundo b c k := by
      rw [yxor01 e1 e2, yundo]
      split <;> rfl
    rw [hX12_undo_15, if_pos (by omega), if_pos (by omega), hs2, if_pos (by omega), if_pos (by omega), if_pos (by omega), hs3, hs4, e0, e3, za_0, zw32_i (by omega),
      ih (k + 1) _ (by omega) (by omega) (fun p q r => (zup_f (by omega)).trans (hs p (by omega) r)) ((zup_f (by omega)).trans hs2) ((zup_f (by omega)).trans hs3) ((funext fun j => zup_f (by omega)).trans hs4), yfm_up (by decide) (by omega) rfl]
theorem s_8 (w : zW) {d : Nat} (hd : 1 ≤ d) {σ : zMem} (h2 : 0 ≤ σ 18 2 ∧ σ 18 2 < 12) (h3 : 1 ≤ σ 18 3 ∧ σ 18 3 ≤ 12) : zcall w d 8 [zA 1 6 18] σ =
    some (0, zup (ywm 20 (fun k => zar 19 (σ 20 k) (σ (23 + 2 * ((σ 18 2 - 1) % 12)) k)) 0 (zup σ 18 2 ((σ 18 2 - 1) % 12))) 18 3 (σ 18 3 - 1)) := by
  obtain ⟨d, rfl⟩ : ∃ e, d = e + 1 := ⟨d - 1, by omega⟩
  have e1 : zar 1 (σ 18 2) 1 = σ 18 2 - 1 := by rw [za_1, zw32_i (by omega)]
  obtain ⟨j, hj⟩ : ∃ j, j = (σ 18 2 - 1) % 12 := ⟨_, rfl⟩
  have hj2 : 0 ≤ j ∧ j < 12 := by omega
  have r1 : zR w 18 0 = 19 := rfl
  have r2 : zR w 19 0 = 20 := rfl
  have r3 : zR w 18 1 = 21 := rfl
  obtain ⟨r4, r5⟩ := yr21 w hj2
  have g : zup σ 18 2 j 18 2 = j := zup_t (by omega)
  have g20 : zup σ 18 2 j 20 = σ 20 := funext fun k => zup_f (by omega)
  have gj : zup σ 18 2 j (23 + 2 * j) = σ (23 + 2 * j) := funext fun k => zup_f (by omega)
  rw [eX0_tellBack, e1, s_339 w d ⟨by omega, by omega⟩ (by decide), Option.bind_some]
  dsimp only
  rw [← hj, g, if_pos hj2, r1, r3, r4, s_56 w d (by rw [r2]; decide), r2, r5, Option.bind_some, g20, gj]
  dsimp only
  rw [ywm_f (by omega), zup_f (a' := 18) (k' := 3) (by omega), za_1, zw32_i (by omega)]
theorem op_38 (w : zW) : zOp zInv w 185 325 [] := by
  intro σ hI
  obtain ⟨⟨v1, v2, v3, v4, v5, v6, v7, v8, v9, v10⟩, v11⟩ := hI.2.2.2.2.1
  by_cases h0 : σ 209 24 = 0
  · refine yref hI (n := -65) ((eX11_undo w 998 σ).trans ?_) ((eX12_undo w 998 _).trans ?_)
    · simp only [eX0_left, Option.bind_some, s_194 w 998 (n := -65) (by decide)]
      rw [if_pos (by omega)]
    · have g : ∀ a k, a ≠ 208 → zrA σ (-65) a k = σ a k := fun a k q => zup_f (Or.inl q)
      rw [g 209 24 (by decide), if_pos h0, s_214 w 998 (by decide), Option.bind_some]
  · obtain ⟨j, hj⟩ : ∃ j, j = (σ 18 2 - 1) % 12 := ⟨_, rfl⟩
    obtain ⟨n, hn⟩ : ∃ n, n = σ 209 24 - 1 := ⟨_, rfl⟩
    have hA := s_8 w (d := 998) (by decide) ⟨v4, v5⟩ (σ := σ) (by omega)
    rw [← hj, show σ 18 3 - 1 = n by omega] at hA
    obtain ⟨f, hf⟩ : ∃ f : Int → Int, f = fun k => zar 19 (σ 20 k) (σ (23 + 2 * j) k) := ⟨_, rfl⟩
    rw [← hf] at hA
    obtain ⟨σ1, hσ1⟩ : ∃ σ1, σ1 = zup (ywm 20 f 0 (zup σ 18 2 j)) 18 3 n := ⟨_, rfl⟩
    rw [← hσ1] at hA
    have g1 : ∀ a k, a ≠ 20 → ¬ (a = 18 ∧ (k = 2 ∨ k = 3)) → σ1 a k = σ a k := fun a k q r => by rw [hσ1, zup_f (by omega), ywm_f (by omega), zup_f (by omega)]
    have g2 : σ1 18 2 = j := by rw [hσ1, zup_f (by omega), ywm_f (by omega), zup_t (by omega)]
    have g3 : σ1 18 3 = n := by rw [hσ1, zup_t (by omega)]
    have g4 : ∀ p, 0 ≤ p → p < 4096 → zbit σ1 20 p = ybw f p := fun p a b => by
      have e : zbit σ1 20 p = zbit (ywm 20 f 0 (zup σ 18 2 j)) 20 p := zbit_fr fun k => by rw [hσ1, zup_f (by omega)]
      rw [e, zbit_wm ⟨a, b⟩]
      rfl
    have hp := v11 n (by omega) (by omega)
    have hv := v10 n (by omega) (by omega)
    rw [show (σ 18 2 - σ 209 24 + n) % 12 = j by rw [hj]; congr 1; omega] at hv
    have hC : zcall w 999 185 [zA 12 16 1] σ = some (n, σ1) := by
      refine (eX11_undo w 998 σ).trans ?_
      simp only [eX0_left, Option.bind_some]
      rw [if_neg (by omega), hA, Option.bind_some]
      dsimp only
      rw [g3]
    have hR : zcall w 999 325 [zA 13 32 209] σ1 = some (n, yfm 229 (yundo (σ 229) (σ (σ 230 n))) 0 4096 (zup σ1 209 24 n)) := by
      refine (eX12_undo w 998 σ1).trans ?_
      rw [g1 209 24 (by decide) (by decide), if_neg h0, za_1, zw32_i (by omega), ← hn]
      refine l_325 w 998 v9 hv.2 (by omega) (o := σ 230 n) (by omega) 4096 0 _ (by omega) (by omega) (fun p a b => ?_) (zup_t (by omega)) ?_ (funext fun k => ?_)
      · rw [zup_f (by omega), g1 _ _ (by omega) (by omega)]
      · rw [zup_f (by omega), g1 _ _ (by omega) (by omega)]
      · rw [zup_f (by omega), g1 _ _ (by omega) (by omega)]
    refine yop n σ1 _ hC hR ?_
    have G : ∀ a k, a ≠ 20 → a ≠ 229 → ¬ (a = 18 ∧ (k = 2 ∨ k = 3)) → ¬ (a = 209 ∧ k = 24) → yfm 229 (yundo (σ 229) (σ (σ 230 n))) 0 4096 (zup σ1 209 24 n) a k = σ a k := fun a k q1 q2 q3 q4 => by
      rw [yfm_f (by omega), zup_f (by omega), g1 a k q1 q3]
    have G2 : yfm 229 (yundo (σ 229) (σ (σ 230 n))) 0 4096 (zup σ1 209 24 n) 209 24 = n := by rw [yfm_f (by omega), zup_t (by omega)]
    have G3 : yfm 229 (yundo (σ 229) (σ (σ 230 n))) 0 4096 (zup σ1 209 24 n) 18 2 = j := by rw [yfm_f (by omega), zup_f (by omega), g2]
    have G4 : yfm 229 (yundo (σ 229) (σ (σ 230 n))) 0 4096 (zup σ1 209 24 n) 18 3 = n := by rw [yfm_f (by omega), zup_f (by omega), g3]
    have G5 : ∀ p, 0 ≤ p → p < 4096 → yfm 229 (yundo (σ 229) (σ (σ 230 n))) 0 4096 (zup σ1 209 24 n) 229 p = yundo (σ 229) (σ (σ 230 n)) p := fun p a b => yfm_t (by omega)
    have G6 : ∀ p, 0 ≤ p → p < 4096 → zbit (yfm 229 (yundo (σ 229) (σ (σ 230 n))) 0 4096 (zup σ1 209 24 n)) 20 p = ybw f p := fun p a b => by
      rw [← g4 p a b]
      exact zbit_fr fun k => by rw [yfm_f (by omega), zup_f (by omega)]
    generalize yfm 229 (yundo (σ 229) (σ (σ 230 n))) 0 4096 (zup σ1 209 24 n) = σ2 at *
    have e230 : σ2 230 = σ 230 := funext fun k => G _ _ (by omega) (by omega) (by omega) (by omega)
    refine zInv_B hI (fun a k q => G a k (by unfold zsB at q; omega) (by unfold zsB at q; omega) (by unfold zsB at q; omega) (by unfold zsB at q; omega)) ⟨?_, ?_⟩
    · rw [e230, G2, G 209 25 (by omega) (by omega) (by omega) (by omega), G 209 26 (by omega) (by omega) (by omega) (by omega)]
      refine ⟨G4, (G 18 4 (by omega) (by omega) (by omega) (by omega)).trans v2, (G 18 5 (by omega) (by omega) (by omega) (by omega)).trans v3, by omega, by omega, by omega, by omega, fun p a b => ?_, fun p a b => ?_, fun i a b => ?_⟩
      · show zbit σ2 20 p = zbo (σ2 229 p)
        rw [G6 p a b, G5 p a b, hf, zbit_xor]
        have x1 : zbit σ 20 p = zbo (σ 229 p) := v8 p a b
        have x2 : zbit σ (23 + 2 * j) p = zbo (σ (σ 230 n) p) := hv.1 p a b
        have y1 := v9 p a b
        have y2 : 0 ≤ σ (σ 230 n) p ∧ σ (σ 230 n) p ≤ 1 := hv.2 p a b
        rw [x1, x2, yundo]
        unfold zbo
        have z1 : σ 229 p = 0 ∨ σ 229 p = 1 := by omega
        have z2 : σ (σ 230 n) p = 0 ∨ σ (σ 230 n) p = 1 := by omega
        rcases z1 with z1 | z1 <;> rcases z2 with z2 | z2 <;> rw [z1, z2] <;> decide
      · rw [G5 p a b, yundo]
        split <;> decide
      · have w1 := v10 i a (by omega)
        have w2 := (v11 i a (by omega)).1
        have e1 : (σ2 18 2 - n + i) % 12 = (σ 18 2 - σ 209 24 + i) % 12 := by rw [G3]; omega
        have e2 : σ2 (σ 230 i) = σ (σ 230 i) := funext fun k => G _ _ (by omega) (by omega) (by omega) (by omega)
        rw [e1]
        dsimp only
        rw [e2]
        exact ⟨zPS_fr (fun k => G _ _ (by omega) (by omega) (by omega) (by omega)) w1.1, w1.2⟩
    · unfold zPm
      rw [e230]
      exact v11
