theorem op_45 (w : zW) : zOp zInv w 192 335 [] := by
  intro σ hI
  have hn := zI_hn hI
  obtain ⟨hv, hp⟩ := hI.2.2.2.2.1
  obtain ⟨K1, K2, K3, K4, K5, K6⟩ := hI.2.2.2.1
  by_cases h0 : σ 209 31 = 0
  · refine yref hI (n := -65) ((eX11_back w 998 σ).trans ?_) ((eX12_back w 998 _).trans ?_)
    · rw [K2, if_pos h0, s_194 w 998 (by decide), Option.bind_some]
    · have g : ∀ a k, a ≠ 208 → zrA σ (-65) a k = σ a k := fun a k q => zup_f (Or.inl q)
      rw [g 209 31 (by decide), if_pos h0, s_214 w 998 (by decide), Option.bind_some]
  obtain ⟨W1, W2, W3, W4, W5⟩ := K6 (by omega)
  obtain ⟨N, hN⟩ : ∃ N, N = σ 258 0 := ⟨_, rfl⟩
  rw [← hN] at W1 W2 W3
  have hN2 : 0 ≤ N ∧ N ≤ 24 := ⟨W1.1, W1.2.1⟩
  have hnc : 0 ≤ σ 258 1 ∧ σ 258 1 ≤ 12 := ⟨W5.2.2.2.2.2.1, W5.2.2.2.2.2.2.1⟩
  -- the class
  obtain ⟨s1, e1, a1, a2, a3, a4⟩ := s_123 w 998 (o := 2) (p := 10) (Or.inr ⟨rfl, rfl⟩) σ
  obtain ⟨s2, e2, b1, b2, b3, b4⟩ := s_9 w (d := 998) (by decide) (o := 18) (p := 46) (Or.inl ⟨rfl, rfl⟩) s1
  obtain ⟨s3, q3⟩ : ∃ s3, s3 = yfm 87 (fun _ => 0) (σ 1 15) 24 s2 := ⟨_, rfl⟩
  obtain ⟨s4, q4⟩ : ∃ s4, s4 = yls 75 N 0 (zup s3 1 15 N) := ⟨_, rfl⟩
  have f2 : ∀ a k, ¬ (2 ≤ a ∧ a ≤ 9) → ¬ (18 ≤ a ∧ a ≤ 45) → s2 a k = σ a k := fun a k x y => by rw [b1 a k y, a1 a k x]
  have f4 : ∀ a k, ¬ (2 ≤ a ∧ a ≤ 9) → ¬ (18 ≤ a ∧ a ≤ 45) → a ≠ 87 → a ≠ 75 → ¬ (a = 1 ∧ k = 15) → s4 a k = σ a k := fun a k x y z u v => by
    rw [q4, yls_f (by omega), zup_f (by omega), q3, yfm_f (by omega), f2 a k x y]
  have s27 : s2 2 7 = N := by rw [b1 _ _ (by decide), a2, W2.1]
  have s37 : s3 2 7 = N := by rw [q3, yfm_f (by omega), s27]
  have hC : zcall w 999 192 [zA 12 16 1] σ = some (1, s4) := by
    refine (eX11_back w 998 σ).trans ?_
    rw [K2, if_neg h0, e1, Option.bind_some]
    dsimp only
    rw [e2, Option.bind_some]
    dsimp only
    rw [f2 1 15 (by decide) (by decide), s_36 w (by decide) (by omega), Option.bind_some, ← q3]
    dsimp only
    rw [eX9_size, Option.bind_some, s37]
    dsimp only
    rw [eX9_size, Option.bind_some, zup_f (by omega), s37]
    dsimp only
    rw [s_86 w 998 hN2, Option.bind_some, q4]
  have ff : ∀ a, 88 ≤ a → s4 a = σ a := fun a x => funext fun k => f4 a k (by omega) (by omega) (by omega) (by omega) (by omega)
  -- the reference
  obtain ⟨t1, p1⟩ : ∃ t1, t1 = yfm 210 (σ 243) 0 264 s4 := ⟨_, rfl⟩
  obtain ⟨t2, p2⟩ : ∃ t2, t2 = zup (zup (zup (zup t1 209 1 N) 209 24 (σ 258 1)) 209 25 (σ 258 2)) 209 26 (σ 258 3) := ⟨_, rfl⟩
  obtain ⟨t3, p3⟩ : ∃ t3, t3 = yfm 229 (σ 244) 0 4096 t2 := ⟨_, rfl⟩
  have t1f : ∀ a k, a ≠ 210 → t1 a k = s4 a k := fun a k x => by rw [p1, yfm_f (by omega)]
  have t2f : ∀ a k, a ≠ 209 → t2 a k = t1 a k := fun a k x => by rw [p2, zup_f (by omega), zup_f (by omega), zup_f (by omega), zup_f (by omega)]
  have t3f : ∀ a k, a ≠ 229 → t3 a k = t2 a k := fun a k x => by rw [p3, yfm_f (by omega)]
  have g3 : ∀ a k, a ≠ 209 → a ≠ 210 → a ≠ 229 → t3 a k = s4 a k := fun a k x y z => by rw [t3f a k z, t2f a k x, t1f a k y]
  have k24 : t3 209 24 = σ 258 1 := by rw [t3f _ _ (by decide), p2, zup_f (by omega), zup_f (by omega), zup_t (by omega)]
  obtain ⟨t4, e4, c1, c2, c3⟩ := l_335b w 998 (n := σ 258 1) hnc.2 (r := σ 230) (fun i j x y x2 y2 q => (hp i x (by omega)).2 j x2 (by omega) q) (σ 258 1).toNat 0 t3 (by omega) (by omega) k24 (fun i x y => ⟨by rw [g3 _ _ (by decide) (by decide) (by decide), ff 230 (by decide)], (hp i x (by omega)).1.1, (hp i x (by omega)).1.2⟩)
    (fun i x y p x2 y2 => by rw [g3 _ _ (by omega) (by omega) (by omega), ff _ (by omega)]; exact (W5.2.2.2.2.2.2.2.2.2 i x y).2 p x2 y2)
  have k1 : t4 209 1 = N := by rw [c1 _ _ (by decide), t3f _ _ (by decide), p2, zup_f (by omega), zup_f (by omega), zup_f (by omega), zup_t (by omega)]
  obtain ⟨t5, p5⟩ : ∃ t5, t5 = yls 226 N 0 t4 := ⟨_, rfl⟩
  have hR : zcall w 999 335 [zA 13 32 209] s4 = some (1, t5) := by
    refine (eX12_back w 998 s4).trans ?_
    rw [ff 209 (by decide), if_neg h0, l_335a w 998 (f := σ 243) 264 0 s4 (by omega) (by omega) (fun p => by rw [ff 243 (by decide)]), ← p1, hX12_back_9, if_neg (by decide)]
    have z : ∀ k, t1 258 k = σ 258 k := fun k => by rw [t1f _ _ (by decide), ff 258 (by decide)]
    simp only [zup_f (σ := zup (zup t1 209 1 N) 209 24 (σ 258 1)) (a := 209) (k := 25) (a' := 258) (Or.inl (by decide)), zup_f (σ := zup t1 209 1 N) (a := 209) (k := 24) (a' := 258) (Or.inl (by decide)), zup_f (σ := t1) (a := 209) (k := 1) (a' := 258) (Or.inl (by decide)), z, ← hN]
    rw [← p2]
    have e244 : t2 244 = σ 244 := funext fun k => by rw [t2f _ _ (by decide), t1f _ _ (by decide), ff 244 (by decide)]
    rw [s_333 w 998 (by decide) (by decide) (by rw [e244]; exact W5.2.2.2.2.2.2.2.2.1), Option.bind_some, e244, ← p3]
    dsimp only
    rw [e4, hX12_back_53, c1 209 24 (by decide), k24, if_neg (by omega), s_292 w 998 (by rw [k1]; exact hN2), Option.bind_some, k1, p5]
  have H5 : ∀ a k, a ≠ 226 → t5 a k = t4 a k := fun a k x => by rw [p5, yls_f (by omega)]
  have HC : ∀ a k, a ≤ 208 → t5 a k = s4 a k := fun a k x => by rw [H5 a k (by omega), c1 a k (by omega), g3 a k (by omega) (by omega) (by omega)]
  have H209 : ∀ k, ¬ (k = 1 ∨ k = 24 ∨ k = 25 ∨ k = 26) → t5 209 k = σ 209 k := fun k x => by
    rw [H5 _ _ (by decide), c1 _ _ (by decide), t3f _ _ (by decide), p2, zup_f (by omega), zup_f (by omega), zup_f (by omega), zup_f (by omega), t1f _ _ (by decide), ff 209 (by decide)]
  have HR : ∀ a k, 211 ≤ a → a ≠ 226 → a ≠ 229 → ¬ (231 ≤ a ∧ a ≤ 242) → t5 a k = σ a k := fun a k x y z u => by
    rw [H5 a k y, c1 a k u, g3 a k (by omega) (by omega) z, ff a (by omega)]
  have m1 : t5 209 1 = N := by rw [H5 _ _ (by decide), k1]
  have m24 : t5 209 24 = σ 258 1 := by rw [H5 _ _ (by decide), c1 _ _ (by decide), k24]
  have m25 : t5 209 25 = σ 258 2 := by rw [H5 _ _ (by decide), c1 _ _ (by decide), t3f _ _ (by decide), p2, zup_f (by omega), zup_t (by omega)]
  have m26 : t5 209 26 = σ 258 3 := by rw [H5 _ _ (by decide), c1 _ _ (by decide), t3f _ _ (by decide), p2, zup_t (by omega)]
  have m210 : ∀ k : Int, 0 ≤ k → k < 264 → t5 210 k = σ 243 k := fun k x y => by
    rw [H5 _ _ (by decide), c1 _ _ (by decide), t3f _ _ (by decide), t2f _ _ (by decide), p1, yfm_t (by omega)]
  have m229 : ∀ p : Int, 0 ≤ p → p < 4096 → t5 229 p = σ 244 p := fun p x y => by
    rw [H5 _ _ (by decide), c1 _ _ (by decide), p3, yfm_t (by omega)]
  have e230 : t5 230 = σ 230 := funext fun k => HR _ _ (by decide) (by decide) (by decide) (by decide)
  have mc : ∀ i : Int, 0 ≤ i → i < σ 258 1 → ∀ p : Int, 0 ≤ p → p < 4096 → t5 (t5 230 i) p = σ (246 + i) p := fun i x y p x2 y2 => by
    have := (hp i x (by omega)).1
    rw [e230, H5 _ _ (by omega), c3 i p x y x2 y2, g3 _ _ (by omega) (by omega) (by omega), ff _ (by omega)]
  have mks : t5 1 15 = N := by rw [HC _ _ (by decide), q4, yls_f (by omega), zup_t (by omega)]
  have e243 : t5 243 = σ 243 := funext fun k => HR _ _ (by decide) (by decide) (by decide) (by decide)
  have e244 : t5 244 = σ 244 := funext fun k => HR _ _ (by decide) (by decide) (by decide) (by decide)
  have e258 : t5 258 = σ 258 := funext fun k => HR _ _ (by decide) (by decide) (by decide) (by decide)
  have hT : ∀ k : Int, 0 ≤ k → k < 11 * N → t5 210 k = σ 243 k := fun k x y => m210 k x (by omega)
  refine yop 1 s4 t5 hC hR ?_
  obtain ⟨i0, i1, i2, i3, i4, i5, i6, i7⟩ := hI
  refine ⟨?_, ⟨?_, ?_⟩, ?_, ?_, ⟨?_, ?_⟩, ?_, ?_, ?_⟩
  · rw [HC 0 0 (by decide), f4 0 0 (by decide) (by decide) (by decide) (by decide) (by decide), i0]
  · rw [m1]
    exact zWF_c W1 hT
  · rw [m1]
    refine zTb_c W1 hT ?_
    have h1 : zTb 2 s1 (σ 243) N := zTb_take hN2.2 a2 a3 a4 W2
    exact zTb_fr (fun a k x y => by rw [HC a k (by omega), q4, yls_f (by omega), zup_f (by omega), q3, yfm_f (by omega), b1 a k (by omega)]) h1
  · rw [m1]
    intro i x y
    by_cases c : i < σ 1 15
    · have t8 : t5 87 i = σ 87 i := by rw [HC _ _ (by decide), q4, yls_f (by omega), zup_f (by omega), q3, yfm_f (by omega), f2 _ _ (by decide) (by decide)]
      have hw : zWF (σ 210) (σ 1 15) := zWF_le i1.1 K3 K4
      have hk : ∀ k : Int, 0 ≤ k → k < 11 * σ 1 15 → t5 210 k = σ 210 k := fun k x2 y2 => (m210 k x2 (by omega)).trans (W4 k x2 y2)
      rw [t8]
      rcases i2 i x (by omega) with q | q
      · exact Or.inl q
      · refine Or.inr ⟨?_, ?_⟩
        · rw [zlkN_c hw hk x c]
          exact q.1
        · rw [zns_c hw hk x c]
          exact zPS_fr (fun k => by rw [HC _ _ (by omega), f4 _ _ (by omega) (by omega) (by omega) (by omega) (by omega)]) q.2
    · refine Or.inl ?_
      rw [HC _ _ (by decide), q4, yls_f (by omega), zup_f (by omega), q3, yfm_t (by omega)]
  · unfold zI_K
    rw [H209 31 (by decide), HC 1 14 (by decide), f4 1 14 (by decide) (by decide) (by decide) (by decide) (by decide), mks, m1, e243, e258, e244, ← hN]
    refine ⟨K1, K2, by omega, by omega, fun q => absurd q h0, fun _ => ⟨W1, ?_, by omega, fun k x y => (hT k x y).symm, ?_⟩⟩
    · exact zTb_fr (fun a k x y => by rw [HC a k (by omega), f4 a k (by omega) (by omega) (by omega) (by omega) (by omega)]) W2
    · have h6 : zBl 46 t5 (σ 244) (fun i => σ (246 + i)) (σ 258 1) (σ 258 2) (σ 258 3) := zBl_fr (fun a k x y => by rw [HC a k (by omega), f4 a k (by omega) (by omega) (by omega) (by omega) (by omega)]) W5
      exact zBl_c h6 (fun _ _ _ => rfl) (fun i x y p x2 y2 => HR _ _ (by omega) (by omega) (by omega) (by omega))
  · rw [m24, m25, m26]
    have h1 : zBl 46 s1 (σ 244) (fun i => σ (246 + i)) (σ 258 1) (σ 258 2) (σ 258 3) := zBl_fr (fun a k x y => a1 a k (by omega)) W5
    have h2 := zBl_take b2 b3 b4 h1
    have h3 : zBl 18 t5 (σ 244) (fun i => σ (246 + i)) (σ 258 1) (σ 258 2) (σ 258 3) := zBl_fr (fun a k x y => by rw [HC a k (by omega), q4, yls_f (by omega), zup_f (by omega), q3, yfm_f (by omega)]) h2
    exact zBl_c h3 m229 mc
  · unfold zPm
    rw [e230]
    exact hp
  · refine zI_S_loose (n := N) hN2.1 i5 (fun a k q => ?_) m1 (fun s x y => ?_) (fun s x y => ?_)
    · by_cases c : a ≤ 208
      · rw [HC a k c, f4 a k (by omega) (by omega) (by omega) (by omega) (by omega)]
      · exact HR a k (by omega) (by omega) (by omega) (by omega)
    · have e0 : zup s3 1 15 N 75 s = σ 75 s := by rw [zup_f (by omega), q3, yfm_f (by omega), f2 _ _ (by decide) (by decide)]
      rw [HC _ _ (by decide), q4, yls, e0]
      by_cases c : 10 + N ≤ σ 75 s
      · rw [if_pos ⟨rfl, x, y, c⟩, if_pos c]
      · rw [if_neg (fun q => c q.2.2.2), if_neg c]
    · have e0 : t4 226 s = σ 226 s := by rw [c1 _ _ (by decide), g3 _ _ (by decide) (by decide) (by decide), ff 226 (by decide)]
      rw [p5, yls, e0]
      by_cases c : 10 + N ≤ σ 226 s
      · rw [if_pos ⟨rfl, x, y, c⟩, if_pos c]
      · rw [if_neg (fun q => c q.2.2.2), if_neg c]
  · exact zI_R_fr (fun a k q => by
      unfold zsR at q
      by_cases c : a ≤ 208
      · rw [HC a k c, f4 a k (by omega) (by omega) (by omega) (by omega) (by omega)]
      · exact HR a k (by omega) (by omega) (by omega) (by omega)) i6
  · exact zI_P_fr (fun a k q => by
      unfold zsP at q
      by_cases c : a ≤ 208
      · rw [HC a k c, f4 a k (by omega) (by omega) (by omega) (by omega) (by omega)]
      · by_cases c9 : a = 209
        · subst c9
          exact H209 k (by omega)
        · exact HR a k (by omega) (by omega) (by omega) (by omega)) i7
