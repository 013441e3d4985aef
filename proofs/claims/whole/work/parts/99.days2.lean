theorem l_331p (w : zW) (d : Nat) {n0 k0 x y z r : Int} {G : Int → Int} (hx : 0 ≤ x ∧ x < 16) (hy : 0 ≤ y ∧ y < 16) (hz : 0 ≤ z ∧ z < 16) (hr : 0 ≤ r ∧ r < 6)
    (hG : ∀ p : Int, (yib x y z r (p / 256) (p / 16 % 16) (p % 16) → G p = 1) ∧ (¬ yib x y z r (p / 256) (p / 16 % 16) (p % 16) → G p = 0)) :
    ∀ (m : Nat) (k : Int) (v8 v9 v10 : zV) (σ : zMem), 0 ≤ k → k + m = 4096 → ∃ v8' v9' v10', zden w (d + 1) 331 33 [zA 13 32 209, zI n0, zI k0, zI x, zI y, zI z, zI r, zI k, v8, v9, v10] [] σ =
      zden w (d + 1) 331 33 [zA 13 32 209, zI n0, zI k0, zI x, zI y, zI z, zI r, zI 4096, v8', v9', v10'] [] (yfm 215 G k 4096 σ) := by
  intro m
  induction m with
  | zero =>
    intro k v8 v9 v10 σ h0 h
    have : k = 4096 := by omega
    subst this
    exact ⟨v8, v9, v10, by rw [yfm_e]⟩
  | succ m ih =>
    intro k v8 v9 v10 σ h0 h
    obtain ⟨c1, c2⟩ := yib_c hx hy hz hr (i := k / 256) (j := k / 16 % 16) (k := k % 16) (by omega) (by omega) (by omega)
    have ek : zar 0 k 1 = k + 1 := by rw [za_0, zw32_i (by omega)]
    rw [hX12_days_33, if_pos (by omega), s_243, Option.bind_some]
    dsimp only
    rw [s_244 w d (by omega), Option.bind_some]
    dsimp only
    rw [s_245 w d (by omega), Option.bind_some]
    dsimp only
    rw [c1, c2, ek]
    by_cases c : yib x y z r (k / 256) (k / 16 % 16) (k % 16)
    · rw [if_neg (by unfold yib at c; omega), if_pos (by omega)]
      obtain ⟨a8, a9, a10, e⟩ := ih (k + 1) (zI (zar 1 (k / 256) x)) (zI (zar 1 (k / 16 % 16) y)) (zI (zar 1 (k % 16) z)) (zup σ 215 k 1) (by omega) (by omega)
      rw [yfm_up (by decide) (by omega) ((hG k).1 c).symm] at e
      exact ⟨a8, a9, a10, e⟩
    · rw [if_pos (by unfold yib at c; omega), if_pos (by omega)]
      obtain ⟨a8, a9, a10, e⟩ := ih (k + 1) (zI (zar 1 (k / 256) x)) (zI (zar 1 (k / 16 % 16) y)) (zI (zar 1 (k % 16) z)) (zup σ 215 k 0) (by omega) (by omega)
      rw [yfm_up (by decide) (by omega) ((hG k).2 c).symm] at e
      exact ⟨a8, a9, a10, e⟩
theorem yRl_cv {how sd : Int} {g : Int → Int} {B : yB} {σ σ' : zMem} (hB : yRl σ (B.1, B.2.1, B.2.2.1, B.2.2.2.1, sd)) (hn : 0 ≤ B.2.2.1 ∧ B.2.2.1 ≤ 12) (hg : ∀ p : Int, 0 ≤ p → p < 4096 → σ 215 p = g p) (hc : zCar how σ σ') : yRl σ' (ycv how g sd B) := by
  obtain ⟨b, c, nc, na, sd0⟩ := B
  obtain ⟨u1, u2, u3, u4, u5, u6⟩ := hB
  obtain ⟨k1, k2, k3, k4, k5, k6, k7⟩ := hc
  dsimp only at *
  refine ⟨fun p x y => ?_, ?_, ?_, ?_, k4, fun i a1 a2 p x y => ?_⟩
  · rw [k1 p x y, u1 p x y, hg p x y]
    rfl
  · rw [k2, u2]
    rfl
  · rw [k3, u3]
    rfl
  · rw [k7 209 26 (by decide) (by decide) (by decide), u4]
    rfl
  · have a2' : i < min (nc + 1) 12 := a2
    show σ' (σ' 230 i) p = (if i = min (nc + 1) 12 - 1 then (fun p => yto how (b p) (g p) |> fun _ => ych how (b p) (g p)) else c (i + (nc + 1 - min (nc + 1) 12))) p
    by_cases e : i = min (nc + 1) 12 - 1
    · rw [if_pos e]
      have := k6 p x y
      rw [k2, u2, ← e, u1 p x y, hg p x y] at this
      exact this
    · rw [if_neg e, k5 i a1 (by omega), k2, u2]
      exact u6 _ (by omega) (by omega) p x y
theorem l_331s (w : zW) (d : Nat) {n k : Int} (hk : k < n) (hk2 : 0 ≤ k ∧ k < 60) {v3 v4 v5 v6 v7 v8 v9 v10 : zV} {B : yB} {σ : zMem} (hB : yRl σ B) (hn : 0 ≤ B.2.2.1 ∧ B.2.2.1 ≤ 12) :
    ∃ a3 a4 a5 a6 a7 a8 a9 a10 σ', zden w (d + 1) 331 12 [zA 13 32 209, zI n, zI k, v3, v4, v5, v6, v7, v8, v9, v10] [] σ = zden w (d + 1) 331 12 [zA 13 32 209, zI n, zI (k + 1), a3, a4, a5, a6, a7, a8, a9, a10] [] σ'
      ∧ yRl σ' (yday B) ∧ ∀ a t, a ≠ 215 → ¬ (229 ≤ a ∧ a ≤ 242) → ¬ (a = 209 ∧ 24 ≤ t ∧ t ≤ 26) → σ' a t = σ a t := by
  obtain ⟨b, c, nc, na, sd⟩ := B
  obtain ⟨u1, u2, u3, u4, u5, u6⟩ := hB
  dsimp only at u1 u2 u3 u4 u6 hn
  obtain ⟨σ4, q4⟩ : ∃ σ4, σ4 = zup (zup (zup (zup σ 209 26 (ydr sd)) 209 26 (ydr (ydr sd))) 209 26 (ydr (ydr (ydr sd)))) 209 26 (ydr (ydr (ydr (ydr sd)))) := ⟨_, rfl⟩
  obtain ⟨a8, a9, a10, e5⟩ := l_331p w d (n0 := n) (k0 := k) (G := yg sd) (ydv_b (ydr sd) (n := 16) (by decide)) (ydv_b (ydr (ydr sd)) (n := 16) (by decide)) (ydv_b (ydr (ydr (ydr sd))) (n := 16) (by decide)) (ydv_b (ydr (ydr (ydr (ydr sd)))) (n := 6) (by decide)) (fun p => ⟨fun h => yg_t h, fun h => yg_f h⟩) 4096 0 v8 v9 v10 σ4 (by omega) (by omega)
  obtain ⟨σ6, q6⟩ : ∃ σ6, σ6 = zup (yfm 215 (yg sd) 0 4096 σ4) 209 26 (ysd sd) := ⟨_, rfl⟩
  have f6 : ∀ a t, a ≠ 215 → ¬ (a = 209 ∧ t = 26) → σ6 a t = σ a t := fun a t x y => by
    rw [q6, zup_f (by omega), yfm_f (by omega), q4, zup_f (by omega), zup_f (by omega), zup_f (by omega), zup_f (by omega)]
  have ff : ∀ a, a ≠ 215 → a ≠ 209 → σ6 a = σ a := fun a x y => funext fun t => f6 a t x (by omega)
  have hp6 : zPm σ6 := by
    unfold zPm
    rw [ff 230 (by decide) (by decide)]
    exact u5
  have R6 : yRl σ6 (b, c, nc, na, ysd sd) := by
    refine ⟨fun p x y => ?_, ?_, ?_, ?_, hp6, fun i x y p x2 y2 => ?_⟩
    · rw [f6 229 p (by decide) (by omega), u1 p x y]
    · rw [f6 209 24 (by decide) (by decide), u2]
    · rw [f6 209 25 (by decide) (by decide), u3]
    · rw [q6, zup_t (by omega)]
    · have h2 := (u5 i x (by have : i < nc := y; omega)).1
      rw [ff 230 (by decide) (by decide), ff (σ 230 i) (by omega) (by omega)]
      exact u6 i x y p x2 y2
  obtain ⟨σ7, e7, c7⟩ := s_323 w d (how := ydv (ysd sd) 4) (σ := σ6) (by rw [f6 209 24 (by decide) (by decide)]; omega) hp6
  have g215 : ∀ p : Int, 0 ≤ p → p < 4096 → σ6 215 p = yg sd p := fun p x y => by rw [q6, zup_f (by omega), yfm_t (by omega)]
  have R7 : yRl σ7 (yday (b, c, nc, na, sd)) := yRl_cv (B := (b, c, nc, na, sd)) R6 hn g215 c7
  obtain ⟨k1, k2, k3, k4, k5, k6, k7⟩ := c7
  refine ⟨zI (ydv (ydr sd) 16), zI (ydv (ydr (ydr sd)) 16), zI (ydv (ydr (ydr (ydr sd))) 16), zI (ydv (ydr (ydr (ydr (ydr sd)))) 6), zI (((yct (fun p => zbo (ych (ydv (ysd sd) 4) (σ6 229 p) (σ6 215 p))) 4096 : Nat) : Int)), a8, a9, a10, σ7, ?_, R7, fun a t x y z => ?_⟩
  · rw [hX12_days_12, if_pos hk, s_330 w d (by decide) u4, Option.bind_some]
    dsimp only
    rw [s_330 w d (by decide) (sd := ydr sd) (zup_t (by omega)), Option.bind_some]
    dsimp only
    rw [s_330 w d (by decide) (sd := ydr (ydr sd)) (zup_t (by omega)), Option.bind_some]
    dsimp only
    rw [s_330 w d (by decide) (sd := ydr (ydr (ydr sd))) (zup_t (by omega)), Option.bind_some, ← q4]
    dsimp only
    rw [e5, hX12_days_33, if_neg (by decide)]
    have e6 := s_330 w d (n := 4) (by decide) (sd := ydr (ydr (ydr (ydr sd)))) (σ := yfm 215 (yg sd) 0 4096 σ4) (by rw [yfm_f (by omega), q4, zup_t (by omega)])
    have q6' : zup (yfm 215 (yg sd) 0 4096 σ4) 209 26 (ydr (ydr (ydr (ydr (ydr sd))))) = σ6 := q6.symm
    rw [q6'] at e6
    rw [e6, Option.bind_some]
    dsimp only
    have e7' : zcall w d 323 [zA 13 32 209, zI (ydv (ydr (ydr (ydr (ydr (ydr sd))))) 4)] σ6 = _ := e7
    rw [e7', Option.bind_some, za_0, zw32_i (by omega)]
  · rw [k7 a t (by omega) (by omega) (by omega), f6 a t x (by omega)]
theorem ycv_n (how sd : Int) (g : Int → Int) (B : yB) : (ycv how g sd B).2.2.1 = min (B.2.2.1 + 1) 12 := rfl
theorem l_331 (w : zW) (d : Nat) {n : Int} (hn : n ≤ 60) : ∀ (m : Nat) (k : Int) (v3 v4 v5 v6 v7 v8 v9 v10 : zV) (B : yB) (σ : zMem), 0 ≤ k → k + m = n → yRl σ B → (0 ≤ B.2.2.1 ∧ B.2.2.1 ≤ 12) → (∀ p : Int, 0 ≤ p → p < 4096 → 0 ≤ B.1 p ∧ B.1 p ≤ 1) →
    ∃ σ', zden w (d + 1) 331 12 [zA 13 32 209, zI n, zI k, v3, v4, v5, v6, v7, v8, v9, v10] [] σ = some (((yct (fun p => zbo ((ydays m B).1 p)) 4096 : Nat) : Int), σ')
      ∧ yRl σ' (ydays m B) ∧ ∀ a t, a ≠ 215 → a ≠ 216 → ¬ (229 ≤ a ∧ a ≤ 242) → ¬ (a = 209 ∧ 24 ≤ t ∧ t ≤ 26) → σ' a t = σ a t := by
  intro m
  induction m with
  | zero =>
    intro k v3 v4 v5 v6 v7 v8 v9 v10 B σ h0 h hB hn2 h01
    obtain ⟨u1, u2, u3, u4, u5, u6⟩ := hB
    refine ⟨yfm 216 (σ 229) 0 4096 σ, ?_, ⟨fun p x y => ?_, ?_, ?_, ?_, ?_, fun i x y p x2 y2 => ?_⟩, fun a t x y z1 z2 => yfm_f (by omega)⟩
    · rw [hX12_days_12, if_neg (by omega), s_326 w d (fun p x y => by rw [u1 p x y]; exact h01 p x y), Option.bind_some, yct_c (n := 4096) (f := fun p => zbo (σ 229 p)) (g := fun p => zbo (B.1 p)) (fun p x y => by rw [u1 p x y])]
      rfl
    · rw [yfm_f (by omega), u1 p x y]; rfl
    · rw [yfm_f (by omega), u2]; rfl
    · rw [yfm_f (by omega), u3]; rfl
    · rw [yfm_f (by omega), u4]; rfl
    · have e : yfm 216 (σ 229) 0 4096 σ 230 = σ 230 := funext fun t => yfm_f (by omega)
      unfold zPm
      rw [e]
      exact u5
    · have h2 := (u5 i x (by have : i < B.2.2.1 := y; omega)).1
      rw [yfm_f (a := 230) (by omega), yfm_f (by omega)]
      exact u6 i x y p x2 y2
  | succ m ih =>
    intro k v3 v4 v5 v6 v7 v8 v9 v10 B σ h0 h hB hn2 h01
    obtain ⟨a3, a4, a5, a6, a7, a8, a9, a10, σ1, e1, B1, f1⟩ := l_331s w d (n := n) (k := k) (v3 := v3) (v4 := v4) (v5 := v5) (v6 := v6) (v7 := v7) (v8 := v8) (v9 := v9) (v10 := v10) (by omega) (by omega) hB hn2
    have e3 : (yday B).2.2.1 = min (B.2.2.1 + 1) 12 := rfl
    obtain ⟨σ', e, B2, f2⟩ := ih (k + 1) a3 a4 a5 a6 a7 a8 a9 a10 (yday B) σ1 (by omega) (by omega) B1 (by omega) (fun p x y => yto_01 _ _ _)
    exact ⟨σ', e1.trans e, B2, fun a t x y z1 z2 => (f2 a t x y z1 z2).trans (f1 a t x z1 z2)⟩
