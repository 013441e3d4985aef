section
/-! Call 9: shape -/
theorem op_9 (w : zW) : zOp zInv w 149 306 [] := by
  intro σ hI
  obtain ⟨p1, p2, p3, p4⟩ := hI.2.2.2.2.2.2.2
  have hT := hI.2.1.1
  have c7 : σ 2 7 = σ 209 1 := hI.2.1.2.1
  obtain ⟨n, hn⟩ : ∃ n, n = σ 209 11 := ⟨_, rfl⟩
  obtain ⟨b, hb⟩ : ∃ b, b = σ 209 1 := ⟨_, rfl⟩
  rw [← hn] at p1 p2 p3 p4
  rw [← hb] at c7
  have hb24 : 0 ≤ b ∧ b ≤ 24 := by rw [hb]; exact ⟨hT.1, hT.2.1⟩
  obtain ⟨B, hBd⟩ : ∃ B : Int → Int, ∀ i, B i = if 0 ≤ i ∧ i < n then σ 223 i else -1 := ⟨fun i => if 0 ≤ i ∧ i < n then σ 223 i else -1, fun _ => rfl⟩
  have hB : ytB n B := ⟨p2, p3, fun i h => by rw [hBd, if_neg h], fun i x y => by rw [hBd, if_pos ⟨x, y⟩]; exact (p4 i x y).2⟩
  obtain ⟨μ, hμ⟩ : ∃ μ, μ = zup (zup (zup (zup σ 78 2 0) 78 4 0) 78 5 0) 78 3 (-1) := ⟨_, rfl⟩
  have fμ : ∀ c t, (c ≠ 78 ∨ t < 2 ∨ 5 < t) → μ c t = σ c t := fun c t u => by rw [hμ, zup_f (by omega), zup_f (by omega), zup_f (by omega), zup_f (by omega)]
  have tC : ytC μ n B := ⟨(fμ _ _ (by omega)).trans p1, fun i x y => by rw [fμ _ _ (by omega), hBd, if_pos ⟨x, y⟩]; exact (p4 i x y).1⟩
  have mkS : ∀ σB : zMem, ytk σB n B 0 → σB 209 17 = 0 → qS n B b μ σB 0 0 0 := fun σB t u => ⟨tC, by rw [hμ, zup_f (by omega), zup_f (by omega), zup_f (by omega)]; exact zup_t ⟨rfl, rfl, by decide⟩, by rw [hμ]; exact zup_t ⟨rfl, rfl, by decide⟩, by rw [hμ, zup_f (by omega), zup_f (by omega)]; exact zup_t ⟨rfl, rfl, by decide⟩, by rw [hμ, zup_f (by omega)]; exact zup_t ⟨rfl, rfl, by decide⟩, (fμ _ _ (by omega)).trans c7, t, u, fun s x y => by omega⟩
  have st : ∀ ν : zMem, ν 209 11 = n → (∀ k, ν 223 k = σ 223 k) → ∃ σB, zcall w 998 300 [zA 13 32 209] (zup (zup ν 209 12 0) 209 17 0) = some (0, σB) ∧ ytk σB n B 0 ∧ σB 209 17 = 0 ∧ ∀ c t, (c ≠ 209 ∨ t < 12 ∨ (15 < t ∧ t ≠ 17)) → σB c t = ν c t := by
    intro ν h1 h2
    obtain ⟨σB, k1, k2, k3⟩ := s_300 w (d := 998) (by decide) (σ := zup (zup ν 209 12 0) 209 17 0) hB ⟨by rw [zup_f (by omega), zup_f (by omega)]; exact h1, fun i x y => by rw [zup_f (by omega), zup_f (by omega), h2, hBd, if_pos ⟨x, y⟩]⟩ (a := 0) (by decide) p2 (by rw [zup_f (by omega)]; exact zup_t ⟨rfl, rfl, by decide⟩)
    exact ⟨σB, k1, k2, (k3 _ _ (by omega)).trans (zup_t ⟨rfl, rfl, by decide⟩), fun c t u => by rw [k3 _ _ (by omega), zup_f (by omega), zup_f (by omega)]⟩
  /- the class reads -/
  obtain ⟨f, σA, eq, qA⟩ : ∃ f σA, qL w 995 μ 1 0 = some (f, σA) ∧ qfA b 0 0 μ σA := by
    obtain ⟨σB, k1, k2, k3, k4⟩ := st σ hn.symm (fun _ => rfl)
    rcases q_run w hB hb24 (d := 995) (e := 998) (by decide) (by decide) (mkS σB k2 k3) with ⟨f, v, σA, σB', h1, h2, h3, h4, h5, h6, h7⟩ | ⟨r, σA, σB', h1, h2, h3, h4, h5, h6, h7, h8, h9, h10⟩
    · exact ⟨f, σA, h2, h6⟩
    · exact ⟨-1, σA, h3, h9⟩
  have e68 : zcall w 998 68 [zA 7 11 78, zA 10 8 2] σ = some (f, σA) := by
    refine (eX6_read w 997 2 σ).trans ?_
    rw [← hμ]
    exact eq
  obtain ⟨σA1, hσ1⟩ : ∃ σA1, σA1 = zup σA 78 1 0 := ⟨_, rfl⟩
  have FA : ∀ c t, (c ≠ 78 ∨ t < 1 ∨ 5 < t) → ¬ (80 ≤ c ∧ c ≤ 84) → (3 ≤ c ∧ c ≤ 8 → t < b) → (c = 9 → t < 6 * b) → σA1 c t = σ c t := fun c t h1 h2 h3 h4 => by
    rw [hσ1, zup_f (by omega), qA c t (by omega) (by omega) (by omega) (by omega) (fun x => by have := h3 x; omega) (fun x => by have := h4 x; omega), fμ c t (by omega)]
  have hA := eX11_shape w 998 σ
  rw [e68, Option.bind_some] at hA
  dsimp only at hA
  rw [eX6_made, Option.bind_some] at hA
  dsimp only at hA
  rw [eX6_empty, Option.bind_some, ← hσ1] at hA
  dsimp only at hA
  /- the memory with an empty tape -/
  obtain ⟨ω, hω⟩ : ∃ ω, ω = zup (zup σ 78 1 0) 209 11 0 := ⟨_, rfl⟩
  have fω : ∀ c t, (c ≠ 78 ∨ t ≠ 1) → (c ≠ 209 ∨ t ≠ 11) → ω c t = σ c t := fun c t u v => by rw [hω, zup_f (by omega), zup_f (by omega)]
  have w78 : ω 78 1 = 0 := by rw [hω, zup_f (by omega)]; exact zup_t ⟨rfl, rfl, by decide⟩
  have w209 : ω 209 11 = 0 := by rw [hω]; exact zup_t ⟨rfl, rfl, by decide⟩
  have Iω : zInv ω := by
    refine zInv_P hI (fun a k q => fω a k (by unfold zsP at q; omega) (by unfold zsP at q; omega)) ?_
    unfold zI_P
    rw [w78, w209]
    exact ⟨rfl, by decide, by decide, fun i x y => by omega⟩
  have ωb : ω 209 1 = b := (fω _ _ (by omega) (by omega)).trans hb.symm
  have zx : ∀ a k, zsX a k ∨ zsR a k → (a = 78 → k = 1) ∧ ¬ (80 ≤ a ∧ a ≤ 86) ∧ (a = 209 → k = 1 ∨ k = 11 ∨ 18 ≤ k) ∧ a ≠ 224 ∧ a ≠ 225 := by
    intro a k q
    unfold zsX zsT zsC zsK zsB zsS zsP zsR at q
    omega
  /- refusals -/
  have bad : ∀ (m : Int) (F : zMem), (∀ c t, (c ≠ 78 ∨ t < 1 ∨ 5 < t) → ¬ (80 ≤ c ∧ c ≤ 84) → (3 ≤ c ∧ c ≤ 8 → t < b) → (c = 9 → t < 6 * b) → (c ≠ 209 ∨ t < 11 ∨ 17 < t) → c ≠ 224 → c ≠ 225 → F c t = zrB (zrA σ m) m c t) → F 78 1 = 0 → F 209 11 = 0 → zInv F := by
    intro m F hF h1 h2
    have IY : zInv (zrB (zrA ω m) m) := zref0 Iω
    have Yω : ∀ c t, (c ≠ 78 ∨ t ≠ 1) → (c ≠ 209 ∨ t ≠ 11) → zrB (zrA ω m) m c t = zrB (zrA σ m) m c t := by
      intro c t u v
      have w208 := fω 208 (-62 - m) (by omega) (by omega)
      have w211 := fω 211 (-62 - m) (by omega) (by omega)
      have a208 : ∀ ν : zMem, zrA ν m 208 (-62 - m) = zw32 (ν 208 (-62 - m) + 1) := fun ν => zup_t ⟨rfl, rfl, by decide⟩
      have aoth : ∀ ν : zMem, ¬ (c = 208 ∧ t = -62 - m) → zrA ν m c t = ν c t := fun ν h => zup_f (by omega)
      have a211 : ∀ ν : zMem, zrA ν m 211 (-62 - m) = ν 211 (-62 - m) := fun ν => zup_f (by omega)
      by_cases c1 : c = 211 ∧ t = -62 - m
      · rw [c1.1, c1.2]
        have b211 : ∀ ν : zMem, zrB (zrA ν m) m 211 (-62 - m) = zw32 (zrA ν m 211 (-62 - m) + 1) := fun ν => zup_t ⟨rfl, rfl, by decide⟩
        rw [b211, b211, a211, a211, w211]
      · have both : ∀ ν : zMem, zrB (zrA ν m) m c t = zrA ν m c t := fun ν => zup_f (by omega)
        rw [both, both]
        by_cases c2 : c = 208 ∧ t = -62 - m
        · rw [c2.1, c2.2, a208, a208, w208]
        · rw [aoth _ c2, aoth _ c2, fω c t u v]
    have Y1 : ∀ c t, c ≠ 208 → c ≠ 211 → zrB (zrA ω m) m c t = ω c t := fun c t u v => by unfold zrB zrA; rw [zup_f (by omega), zup_f (by omega)]
    refine zInv_E IY (n := b) ((Y1 _ _ (by decide) (by decide)).trans ωb) (fun a k q u1 u2 u3 => ?_) (fun a k x y z v => ?_) (fun k x y => ?_) (fun k x y => ?_) (fun k x y => ?_)
    · obtain ⟨z1, z2, z3, z4, z5⟩ := zx a k q
      by_cases d1 : a = 78 ∧ k = 1
      · rw [d1.1, d1.2, h1, Y1 _ _ (by decide) (by decide), w78]
      · by_cases d2 : a = 209 ∧ k = 11
        · rw [d2.1, d2.2, h2, Y1 _ _ (by decide) (by decide), w209]
        · rw [hF a k (by omega) (by omega) (by omega) (by omega) (by omega) z4 z5, Yω a k (by omega) (by omega)]
    · rw [hF a k (by omega) (by omega) (by omega) (by omega) (by omega) (by omega) (by omega), Yω a k (by omega) (by omega)]
    · rw [hF 9 k (by omega) (by omega) (by omega) (by omega) (by omega) (by omega) (by omega), Yω 9 k (by omega) (by omega)]
    · rw [hF 87 k (by omega) (by omega) (by omega) (by omega) (by omega) (by omega) (by omega), Yω 87 k (by omega) (by omega)]
    · rw [hF 210 k (by omega) (by omega) (by omega) (by omega) (by omega) (by omega) (by omega), Yω 210 k (by omega) (by omega)]
  have FA' : ∀ (m : Int) c t, (c ≠ 78 ∨ t < 1 ∨ 5 < t) → ¬ (80 ≤ c ∧ c ≤ 84) → (3 ≤ c ∧ c ≤ 8 → t < b) → (c = 9 → t < 6 * b) → zrA σA1 m c t = zrA σ m c t := by
    intro m c t h1 h2 h3 h4
    unfold zrA
    rw [FA 208 _ (by omega) (by omega) (by omega) (by omega)]
    by_cases c2 : c = 208 ∧ t = -62 - m
    · rw [zup_t ⟨c2.1, c2.2, by decide⟩, zup_t ⟨c2.1, c2.2, by decide⟩]
    · rw [zup_f (by omega), zup_f (by omega)]
      exact FA c t h1 h2 h3 h4
  /- a fault -/
  have fault : ∀ (σB' : zMem), (∀ c t, (c = 209 → t < 12 ∨ (15 < t ∧ t ≠ 17)) → c ≠ 224 → c ≠ 225 → σB' c t = zrA σA1 (-62) c t) → zInv (zup (zup σB' 209 11 0) 211 0 (zar 0 ((zup σB' 209 11 0) 211 0) 1)) := by
    intro σB' h
    refine bad (-62) _ (fun c t h1 h2 h3 h4 h5 h6 h7 => ?_) ?_ ?_
    · have e0 : zrB (zrA σ (-62)) (-62) = zup (zrA σ (-62)) 211 0 (zw32 (zrA σ (-62) 211 0 + 1)) := rfl
      have g211 : zup σB' 209 11 0 211 0 = zrA σ (-62) 211 0 := by
        rw [zup_f (by omega), h _ _ (by omega) (by omega) (by omega), FA' _ _ _ (by omega) (by omega) (by omega) (by omega)]
      rw [e0, za_0, g211]
      by_cases c1 : c = 211 ∧ t = 0
      · rw [zup_t ⟨c1.1, c1.2, by decide⟩, zup_t ⟨c1.1, c1.2, by decide⟩]
      · rw [zup_f (by omega), zup_f (by omega), zup_f (by omega), h c t (by omega) h6 h7, FA' _ _ _ h1 h2 h3 h4]
    · rw [zup_f (by omega), zup_f (by omega), h _ _ (by omega) (by omega) (by omega)]
      show zup σA1 208 _ _ 78 1 = 0
      rw [zup_f (by omega), hσ1]; exact zup_t ⟨rfl, rfl, by decide⟩
    · rw [zup_f (by omega)]; exact zup_t ⟨rfl, rfl, by decide⟩
  have n11 : ∀ m : Int, zrA σA1 m 209 11 = n ∧ ∀ k, zrA σA1 m 223 k = σ 223 k := fun m => ⟨by unfold zrA; rw [zup_f (by omega), FA _ _ (by omega) (by omega) (by omega) (by omega)]; exact hn.symm, fun k => by unfold zrA; rw [zup_f (by omega), FA _ _ (by omega) (by omega) (by omega) (by omega)]⟩
  by_cases cf : f = -1
  · have b27 : σA1 2 7 = b := (FA _ _ (by omega) (by omega) (by omega) (by omega)).trans c7
    have b91 : σA1 209 1 = b := (FA _ _ (by omega) (by omega) (by omega) (by omega)).trans hb.symm
    have z24 : zar 1 24 b = 24 - b := by rw [za_1, zw32_i (by omega)]
    obtain ⟨R0, hR0⟩ : ∃ R0, R0 = σA 78 4 := ⟨_, rfl⟩
    have run : ∀ σB : zMem, ytk σB n B 0 → σB 209 17 = 0 → 1 ≤ R0 ∧ R0 ≤ 41 ∧ ∃ σB', zcall w 998 304 [zA 13 32 209, zI 0] σB = some (R0 - 1, σB') ∧ σB' 209 14 = 0 ∧ σB' 209 17 = R0 ∧ (∀ s, 0 ≤ s → s < R0 → qrA b σA (b + s) ∧ qrB b σA σB' s) ∧ qfB 0 0 σB σB' := by
      intro σB k2 k3
      rcases q_run w hB hb24 (d := 995) (e := 998) (by decide) (by decide) (mkS σB k2 k3) with ⟨f', v, σA', σB', h0, h2, h3, h4, h5, h6, h7⟩ | ⟨r, σA', σB', h1, h2, h3, h4, h5, h6, h7, h8, h9, h10⟩
      · have e1 := congrArg Prod.fst (Option.some.inj (eq.symm.trans h2))
        dsimp only at e1
        omega
      · have e1 : σA = σA' := congrArg Prod.snd (Option.some.inj (eq.symm.trans h3))
        rw [← e1] at h6 h8
        have e2 : r = R0 := by rw [hR0, h6]
        rw [e2] at h1 h2 h4 h7 h8
        exact ⟨h1, h2, σB', h4, h5, h7, h8, h10⟩
    rw [if_pos cf, s_110, Option.bind_some] at hA
    dsimp only at hA
    simp only [b27, z24, ← hR0] at hA
    have rb : 1 ≤ R0 ∧ R0 ≤ 41 := by
      obtain ⟨σB, k1, k2, k3, k4⟩ := st σ hn.symm (fun _ => rfl)
      obtain ⟨r1, r2, -⟩ := run σB k2 k3
      exact ⟨r1, r2⟩
    by_cases cr : 24 - b < R0
    · rw [if_pos cr, s_194 w 998 (n := -66) (by decide), Option.bind_some] at hA
      dsimp only at hA
      obtain ⟨σB, k1, k2, k3, k4⟩ := st (zrA σA1 (-66)) (n11 _).1 (n11 _).2
      obtain ⟨-, -, σB', h4, h5, h7, h8, h10⟩ := run σB k2 k3
      have hF : ∀ c t, (c = 209 → t < 12 ∨ (15 < t ∧ t ≠ 17)) → c ≠ 224 → c ≠ 225 → σB' c t = zrA σA1 (-66) c t := fun c t u1 u2 u3 => (h10 c t u1 (fun x => absurd x u2) (fun x => absurd x u3)).trans (k4 c t (by omega))
      have g91 : zup σB' 209 11 0 209 1 = b := by
        rw [zup_f (by omega), hF _ _ (by omega) (by omega) (by omega)]
        unfold zrA
        rw [zup_f (by omega)]; exact b91
      have g17 : zup σB' 209 11 0 209 17 = R0 := (zup_f (by omega)).trans h7
      refine yop (-66) (zrA σA1 (-66)) (zrB (zup σB' 209 11 0) (-66)) hA ?_ (bad (-66) _ (fun c t u1 u2 u3 u4 u5 u6 u7 => ?_) ?_ ?_)
      · refine (eX12_shape w 998 _).trans ?_
        rw [k1, Option.bind_some]
        dsimp only
        rw [h4, Option.bind_some]
        dsimp only
        rw [if_neg (show ¬ R0 - 1 < 0 by omega), if_pos h5]
        simp only [g91, g17]
        rw [za_0, zw32_i (by omega), if_pos (by omega), s_214 w 998 (n := -66) (by decide)]
        rfl
      · have w1 : zup σB' 209 11 0 211 4 = zrA σ (-66) 211 4 := by rw [zup_f (by omega), hF _ _ (by omega) (by omega) (by omega), FA' _ _ _ (by omega) (by omega) (by omega) (by omega)]
        have e1 : ∀ ν : zMem, zrB ν (-66) = zup ν 211 4 (zw32 (ν 211 4 + 1)) := fun ν => rfl
        rw [e1, e1, w1]
        by_cases c1 : c = 211 ∧ t = 4
        · rw [zup_t ⟨c1.1, c1.2, by decide⟩, zup_t ⟨c1.1, c1.2, by decide⟩]
        · rw [zup_f (by omega), zup_f (by omega), zup_f (by omega), hF c t (by omega) u6 u7, FA' _ _ _ u1 u2 u3 u4]
      · show zup _ 211 _ _ 78 1 = 0
        rw [zup_f (by omega), zup_f (by omega), hF _ _ (by omega) (by omega) (by omega)]
        show zup σA1 208 _ _ 78 1 = 0
        rw [zup_f (by omega), hσ1]; exact zup_t ⟨rfl, rfl, by decide⟩
      · show zup _ 211 _ _ 209 11 = 0
        rw [zup_f (by omega)]; exact zup_t ⟨rfl, rfl, by decide⟩
    · rw [if_neg cr, s_160r w (d := 998) (by decide) hb24 (by omega) b27, Option.bind_some] at hA
      dsimp only at hA
      obtain ⟨ν, hν⟩ : ∃ ν, ν = zup (yfm 87 (fun _ => 0) b 24 σA1) 2 7 (b + R0) := ⟨_, rfl⟩
      rw [← hν] at hA
      have fν : ∀ c t, c ≠ 87 → (c ≠ 2 ∨ t ≠ 7) → ν c t = σA1 c t := fun c t u v => by rw [hν, zup_f (by omega), yfm_f (by omega)]
      obtain ⟨σB, k1, k2, k3, k4⟩ := st ν (by rw [fν _ _ (by decide) (by omega), FA _ _ (by omega) (by omega) (by omega) (by omega)]; exact hn.symm) (fun k => by rw [fν _ _ (by decide) (by omega), FA _ _ (by omega) (by omega) (by omega) (by omega)])
      obtain ⟨-, -, σB', h4, h5, h7, h8, h10⟩ := run σB k2 k3
      have hF : ∀ c t, (c = 209 → t < 12 ∨ (15 < t ∧ t ≠ 17)) → c ≠ 224 → c ≠ 225 → σB' c t = ν c t := fun c t u1 u2 u3 => (h10 c t u1 (fun x => absurd x u2) (fun x => absurd x u3)).trans (k4 c t (by omega))
      have g91 : zup σB' 209 11 0 209 1 = b := by
        rw [zup_f (by omega), hF _ _ (by omega) (by omega) (by omega), fν _ _ (by decide) (by omega)]; exact b91
      have g17 : zup σB' 209 11 0 209 17 = R0 := (zup_f (by omega)).trans h7
      have kid : ∀ s, 0 ≤ s → s < R0 → qkr b (b + s) (σA 3 (b + s)) (σA 4 (b + s)) (σA 5 (b + s)) := fun s x y => (h8 s x y).1.1
      obtain ⟨σF, j1, j2, j3, j4, j5⟩ := l_306 w (d := 998) (by decide) (b := b) (r := R0) (R := σB' 224) (v1 := zI 1) (v2 := zI (σB' 209 13)) hb24.1 (by omega) (by omega) (fun s x y => by
        obtain ⟨-, q1, q2, -⟩ := (h8 s x y).2
        have := kid s x y
        unfold qkr at this
        rw [q1, q2]
        constructor <;> (split <;> omega)) R0.toNat 0 (-1) zU (zup σB' 209 11 0) (by decide) (by omega) (by rw [g91]; omega) g17 (funext fun t => zup_f (by omega)) (Or.inl rfl) (by omega)
      have FF : ∀ c t, c ≠ 210 → (c ≠ 209 ∨ t ≠ 1) → (c ≠ 209 ∨ t ≠ 11) → (c = 209 → t < 12 ∨ (15 < t ∧ t ≠ 17)) → c ≠ 224 → c ≠ 225 → σF c t = ν c t := fun c t u1 u2 u3 u4 u5 u6 => by rw [j5 c t u1 u2, zup_f (by omega), hF c t u4 u5 u6]
      refine yop (b + R0 - 1) ν σF hA ?_ ?_
      · refine (eX12_shape w 998 _).trans ?_
        rw [k1, Option.bind_some]
        dsimp only
        rw [h4, Option.bind_some]
        dsimp only
        rw [if_neg (show ¬ R0 - 1 < 0 by omega), if_pos h5]
        simp only [g91, g17]
        rw [za_0, zw32_i (by omega), if_neg (by omega)]
        exact j1
      · have n37 : ∀ c t, 3 ≤ c → c ≤ 9 → σF c t = σA c t := fun c t x y => by rw [FF c t (by omega) (by omega) (by omega) (by omega) (by omega) (by omega), fν _ _ (by omega) (by omega), hσ1, zup_f (by omega)]
        refine q_add (σ := ω) (b := b) (r := R0) Iω ωb (by omega) (by omega) ?_ j2 (fun a k q u1 u2 u3 u4 u5 => ?_) (fun a k x y z v => ?_) (fun k x y => ?_) (fun k x y => ?_) (fun k x y => ?_) (fun k x y => ?_) (fun s x y => ?_)
        · rw [FF _ _ (by omega) (by omega) (by omega) (by omega) (by omega) (by omega), hν]; exact zup_t ⟨rfl, rfl, by decide⟩
        · obtain ⟨z1, z2, z3, z4, z5⟩ := zx a k q
          by_cases d2 : a = 209 ∧ k = 11
          · rw [d2.1, d2.2, w209, j5 _ _ (by omega) (by omega)]; exact zup_t ⟨rfl, rfl, by decide⟩
          · rw [FF a k u3 u5 (by omega) (by omega) z4 z5, fν a k u2 u4]
            by_cases d1 : a = 78 ∧ k = 1
            · rw [d1.1, d1.2, w78, hσ1]; exact zup_t ⟨rfl, rfl, by decide⟩
            · rw [FA a k (by omega) (by omega) (by omega) (by omega), fω a k (by omega) (by omega)]
        · rw [FF a k (by omega) (by omega) (by omega) (by omega) (by omega) (by omega), fν _ _ (by omega) (by omega), FA a k (by omega) (by omega) (by omega) (by omega), fω a k (by omega) (by omega)]
        · rw [FF 9 k (by omega) (by omega) (by omega) (by omega) (by omega) (by omega), fν _ _ (by omega) (by omega), FA 9 k (by omega) (by omega) (by omega) (by omega), fω 9 k (by omega) (by omega)]
        · rw [FF 87 k (by omega) (by omega) (by omega) (by omega) (by omega) (by omega), hν, zup_f (by omega), yfm_f (by omega), FA 87 k (by omega) (by omega) (by omega) (by omega), fω 87 k (by omega) (by omega)]
        · rw [FF 87 k (by omega) (by omega) (by omega) (by omega) (by omega) (by omega), hν, zup_f (by omega), yfm_t ⟨rfl, x, y⟩]
        · rw [j4 k (by omega), zup_f (by omega), hF 210 k (by omega) (by omega) (by omega), fν _ _ (by omega) (by omega), FA 210 k (by omega) (by omega) (by omega) (by omega), fω 210 k (by omega) (by omega)]
        · obtain ⟨ra, rb1, rb2, rb3, rb4, rb5, rb6⟩ := h8 s x y
          obtain ⟨t1, t2, t3, t4, t5, t6⟩ := j3 s x y
          have kk := kid s x y
          unfold qkr at kk
          refine ⟨qrA_f (σ := σA) hb24.1 (by omega) (fun a t u1 u2 _ _ => n37 a t (by omega) (by omega)) (fun t _ => n37 9 t (by decide) (by decide)) ra, ?_, ?_, ?_, ?_, ?_, fun t u1 u2 => ?_⟩
          · rw [t1, rb1, n37 3 _ (by decide) (by decide)]
          · rw [t2, rb2, n37 4 _ (by decide) (by decide)]
            by_cases c1 : σA 4 (b + s) < 0
            · rw [if_pos c1, if_pos (by decide)]; omega
            · rw [if_neg c1, if_neg (by omega)]; omega
          · rw [t3, rb3, n37 5 _ (by decide) (by decide)]
            by_cases c1 : σA 5 (b + s) < 0
            · rw [if_pos c1, if_pos (by decide)]; omega
            · rw [if_neg c1, if_neg (by omega)]; omega
          · rw [t4, rb4, n37 6 _ (by decide) (by decide)]
          · rw [t5, rb5, n37 7 _ (by decide) (by decide)]
          · rw [n37 3 _ (by decide) (by decide)] at u2
            rw [t6 t u1 (by rw [rb1]; exact u2), rb6 t u1 u2, n37 9 _ (by decide) (by decide)]
  · rw [if_neg cf, s_194 w 998 (n := -62) (by decide), Option.bind_some] at hA
    dsimp only at hA
    obtain ⟨σB, k1, k2, k3, k4⟩ := st (zrA σA1 (-62)) (n11 _).1 (n11 _).2
    rcases q_run w hB hb24 (d := 995) (e := 998) (by decide) (by decide) (mkS σB k2 k3) with ⟨f', v, σA', σB', h0, h2, h3, h4, h5, h6, h7⟩ | ⟨r, σA', σB', h1, h2, h3, h4, h5, h6, h7, h8, h9, h10⟩
    · have e1 := Option.some.inj (eq.symm.trans h2)
      have e2 : f = f' := congrArg Prod.fst e1
      refine yop (zar 1 (-700) f) (zrA σA1 (-62)) _ hA ?_ (fault σB' (fun c t u1 u2 u3 => (h7 c t u1 (fun x => absurd x u2) (fun x => absurd x u3)).trans (k4 c t (by omega))))
      refine (eX12_shape w 998 _).trans ?_
      rw [k1, Option.bind_some]
      dsimp only
      rw [h3, Option.bind_some]
      dsimp only
      rw [h5, ← e2]
      by_cases v0 : v < 0
      · rw [if_pos v0]
      · rw [if_neg v0, if_neg (show ¬ σB' 209 14 = 0 by omega)]
    · have e1 := Option.some.inj (eq.symm.trans h3)
      exact absurd (congrArg Prod.fst e1) cf
end
