section
/-! Calls 22 to 24, 30, 31: in, count, placeOf, both, differ -/
theorem yA1 (w : zW) {σ : zMem} (hI : zInv σ) (x : Int) : zcall w 998 197 [zA 12 16 1, zI x] σ = some (zt (0 ≤ x ∧ x < σ 209 1), σ) := by
  rw [s_197 w (by decide), hI.2.1.2.1]
theorem yB1 (w : zW) {σ : zMem} (hI : zInv σ) (x : Int) : zcall w 998 218 [zA 13 32 209, zI x] σ = some (zt (0 ≤ x ∧ x < σ 209 1), σ) :=
  s_218 w (by decide) x ⟨hI.2.1.1.1, hI.2.1.1.2.1⟩
theorem yB1' (w : zW) {σ : zMem} (hI : zInv σ) (x : Int) : zcall w 998 218 [zA 13 32 209, zI x] (zrA σ (-62)) = some (zt (0 ≤ x ∧ x < σ 209 1), zrA σ (-62)) := by
  have n1 : zrA σ (-62) 209 1 = σ 209 1 := zup_f (by omega)
  rw [s_218 w (by decide) x (by rw [n1]; exact ⟨hI.2.1.1.1, hI.2.1.1.2.1⟩), n1]
theorem ybA (w : zW) (σ : zMem) : ((zcall w 998 194 [zA 12 16 1, zI (-62)] σ).bind fun r => some (r.1, r.2)) = some (-62, zrA σ (-62)) := by
  rw [s_194 w 998 (n := -62) (by decide)]; rfl
theorem ybB (w : zW) (σ : zMem) : ((zcall w 998 214 [zA 13 32 209, zI (-62)] σ).bind fun r => some (r.1, r.2)) = some (-62, zrB σ (-62)) := by
  rw [s_214 w 998 (n := -62) (by decide)]; rfl
/-- an answer out of the places, with no more than them looked for -/
theorem yps (w : zW) {y1 y2 : Nat} {as : List zV} {σ σ1 σ2 : zMem} (r : Int) (hI : zInv σ1) (e1 : zcall w 999 y1 (zA 12 16 1 :: as) σ = some (r, σ1)) (e2 : zcall w 999 y2 (zA 13 32 209 :: as) σ1 = some (r, σ2)) (h : zalk σ1 σ2) :
    ∃ r σ1 σ2, zcall w 999 y1 (zA 12 16 1 :: as) σ = some (r, σ1) ∧ zcall w 999 y2 (zA 13 32 209 :: as) σ1 = some (r, σ2) ∧ zInv σ2 := ⟨r, σ1, σ2, e1, e2, zalk_I hI h⟩
theorem op_22 (w : zW) (x1 x2 : Int) : zOp zInv w 165 250 [zI x1, zI x2] := by
  intro σ hI
  have e1 := eX11_in w 998 x1 x2 σ
  by_cases h : (0 ≤ x1 ∧ x1 < σ 209 1) ∧ 0 ≤ x2 ∧ x2 < 4096
  · obtain ⟨h1, h2⟩ := h
    obtain ⟨σ1, m, P, I1, E, n1, -⟩ := s_198 w (d := 998) (by decide) hI h1.1 h1.2
    have r2 := (yr_86 w (s := x1) ⟨h1.1, by have := hI.2.1.1.2.1; omega⟩).2
    refine yps w (zt (zns (σ 210) x1 x2 = true)) I1 (e1.trans ?_) ((eX12_in w 998 x1 x2 σ1).trans ?_) (zalk_r _)
    · rw [yA1 w hI, Option.bind_some]
      dsimp only
      rw [zt_if, if_pos h1, s_202, Option.bind_some]
      dsimp only
      rw [zt_if, if_pos h2, m, Option.bind_some]
      dsimp only
      rw [s_49 w (by decide), r2, Option.bind_some]
      dsimp only
      rw [zt_if, P x2 h2.1 h2.2, zt]
      by_cases c : zns (σ 210) x1 x2 = true
      · rw [if_pos ⟨h2, c⟩, if_pos c]
      · rw [if_neg (fun u => c u.2), if_neg c]
    · rw [yB1 w I1, Option.bind_some]
      dsimp only
      rw [zt_if, n1, if_pos h1, s_246 w (by decide), Option.bind_some]
      dsimp only
      rw [zt_if, if_pos h2, s_248 w (by decide) (n := σ1 209 1) I1.2.1.1 h1.1 (by omega) h2, Option.bind_some]
      dsimp only
      rw [zt_if, E, zt]
      split <;> rfl
  · refine yop (-62) (zrA σ (-62)) (zrB (zrA σ (-62)) (-62)) (e1.trans ?_) ((eX12_in w 998 x1 x2 _).trans ?_) (zref0 hI)
    · rw [yA1 w hI, Option.bind_some]
      dsimp only
      rw [zt_if]
      by_cases u1 : 0 ≤ x1 ∧ x1 < σ 209 1
      · rw [if_pos u1, s_202, Option.bind_some]
        dsimp only
        rw [zt_if, if_neg (fun u => h ⟨u1, u⟩)]
        exact ybA w σ
      · rw [if_neg u1]; exact ybA w σ
    · rw [yB1' w hI, Option.bind_some]
      dsimp only
      rw [zt_if]
      by_cases u1 : 0 ≤ x1 ∧ x1 < σ 209 1
      · rw [if_pos u1, s_246 w (by decide), Option.bind_some]
        dsimp only
        rw [zt_if, if_neg (fun u => h ⟨u1, u⟩)]
        exact ybB w _
      · rw [if_neg u1]; exact ybB w _
/-! how many cubes the reference looks at -/
def yes (n : Nat) (f : Int → Int → Int → Int) (x y z : Int) (k : Nat) : Int := f (x + ((k % 2 : Nat) : Int) * 2 ^ n) (y + ((k / 2 % 2 : Nat) : Int) * 2 ^ n) (z + ((k / 4 : Nat) : Int) * 2 ^ n)
theorem s_251 (w : zW) {N s : Int} {T : Int → Int} (hT : zWF T N) (h0 : 0 ≤ s) (h1 : s < N) : ∀ (n : Nat), n ≤ 4 → ∀ (d : Nat) (x y z : Int) (σ : zMem), n + 30 ≤ d → (0 ≤ x ∧ x + 2 ^ n ≤ 16) → (0 ≤ y ∧ y + 2 ^ n ≤ 16) → (0 ≤ z ∧ z + 2 ^ n ≤ 16) → σ 210 = T →
    ∃ σ', zcall w d 251 [zA 13 32 209, zI s, zI x, zI y, zI z, zI (2 ^ n)] σ = some (zlkN T s n x y z, σ') ∧ ∀ c k, c ≠ 212 → c ≠ 213 → σ' c k = σ c k := by
  have gs := (hT.2.2 s h0 h1).2
  have front : ∀ (n : Nat), n ≤ 4 → ∀ (d : Nat) (x y z : Int) (σ : zMem), 29 ≤ d → (0 ≤ x ∧ x + 2 ^ n ≤ 16) → (0 ≤ y ∧ y + 2 ^ n ≤ 16) → (0 ≤ z ∧ z + 2 ^ n ≤ 16) → σ 210 = T →
      ∃ σ', zcall w d 230 [zA 13 32 209, zI s, zI 0, zI x, zI (zar 1 (zar 0 x (2 ^ n)) 1), zI y, zI (zar 1 (zar 0 y (2 ^ n)) 1), zI z, zI (zar 1 (zar 0 z (2 ^ n)) 1)] σ = some (0, σ') ∧ yE2 σ σ' (zbd T 7 s (zcube x y z (2 ^ n))) := by
    intro n hn d x y z σ hd hx hy hz hσ
    obtain ⟨p1, p2, -⟩ := y2n hn
    have w1 : ∀ u : Int, 0 ≤ u → u ≤ 16 → zar 1 (zar 0 u (2 ^ n)) 1 = u + 2 ^ n - 1 := fun u a b => by rw [za_0, zw32_i (by omega), za_1, zw32_i (by omega)]
    have hb' : yrb 99 (zcube x y z (2 ^ n)) := by unfold yrb zcube; dsimp only; omega
    obtain ⟨σ', e, f⟩ := s_230 w (n := N) 7 d s (zcube x y z (2 ^ n)) σ (by rw [hσ]; exact hT) (by omega) h0 h1 (by rw [hσ]; omega) (by rw [hσ]; exact yrb_i (by omega) hb')
    rw [hσ] at f
    rw [w1 x (by omega) (by omega), w1 y (by omega) (by omega), w1 z (by omega) (by omega)]
    exact ⟨σ', e, f⟩
  intro n
  induction n with
  | zero =>
    intro hn d x y z σ hd hx hy hz hσ
    obtain ⟨d, rfl⟩ : ∃ e, d = e + 1 := ⟨d - 1, by omega⟩
    obtain ⟨σ', e, -, -, f⟩ := front 0 hn d x y z σ (by omega) hx hy hz hσ
    rw [eX12_looked, e, Option.bind_some]
    dsimp only
    rw [if_neg (by decide)]
    exact ⟨σ', rfl, f⟩
  | succ n ih =>
    intro hn d x y z σ hd hx hy hz hσ
    obtain ⟨d, rfl⟩ : ∃ e, d = e + 1 := ⟨d - 1, by omega⟩
    obtain ⟨p1, p2, p4⟩ := y2n (show n ≤ 4 by omega)
    have p5 := (y2n hn).2.1
    obtain ⟨σ1, e, l, m, f⟩ := front (n + 1) hn d x y z σ (by omega) hx hy hz hσ
    have hσ1 : σ1 210 = T := (funext fun k => f _ _ (by decide) (by decide)).trans hσ
    have e2 : zar 3 (2 ^ (n + 1)) 2 = 2 ^ n := by
      rw [za_3, zw32_i (by rw [Int.tdiv_eq_ediv_of_nonneg (by omega)]; omega), Int.tdiv_eq_ediv_of_nonneg (by omega)]; omega
    rw [eX12_looked, e, Option.bind_some]
    dsimp only
    rw [if_pos (by omega), e2]
    simp only [l, m, zcmp_gt]
    by_cases c1 : 0 < (zbd T 7 s (zcube x y z (2 ^ (n + 1)))).2
    · rw [if_pos c1]
      by_cases c2 : 0 < (zbd T 7 s (zcube x y z (2 ^ (n + 1)))).1
      · rw [if_pos c2, zlkN, if_neg (by omega)]
        exact ⟨σ1, rfl, f⟩
      · rw [if_neg c2]
        have loop : ∀ (t k : Nat) (v5 : zV) (σ2 : zMem), k + t = 8 → σ2 210 = T → ∃ σ', zden w (d + 1) 251 47 [zA 13 32 209, zI s, zI x, zI y, zI z, v5, zI (1 + ySm (yes n (zlkN T s n) x y z) k), zI (2 ^ n), zI (k : Int)] [] σ2 = some (1 + ySm (yes n (zlkN T s n) x y z) 8, σ')
            ∧ ∀ c k, c ≠ 212 → c ≠ 213 → σ' c k = σ2 c k := by
          intro t
          induction t with
          | zero =>
            intro k v5 σ2 hk hσ2
            have : k = 8 := by omega
            subst this
            rw [hX12_looked_47, if_neg (by decide)]
            exact ⟨σ2, rfl, fun _ _ _ _ => rfl⟩
          | succ t it =>
            intro k v5 σ2 hk hσ2
            have k8 : k < 8 := by omega
            have ek : zar 0 (k : Int) 1 = ((k + 1 : Nat) : Int) := by rw [za_0, zw32_i (by omega)]; rfl
            have b1 : zar 6 (k : Int) 1 = ((k % 2 : Nat) : Int) ∧ zar 6 (zar 10 (k : Int) 1) 1 = ((k / 2 % 2 : Nat) : Int) ∧ zar 10 (k : Int) 2 = ((k / 4 : Nat) : Int) := by
              have an : ∀ u : Nat, u < 8 → zar 6 (u : Int) 1 = ((u % 2 : Nat) : Int) := by
                intro u hu
                have q1 : zu32 (u : Int) &&& 1 = zu32 (u : Int) % 2 ^ 1 := Nat.and_two_pow_sub_one_eq_mod _ 1
                have q2 : zu32 1 = 1 := rfl
                have q3 : zu32 (u : Int) = u := by unfold zu32; omega
                rw [za_6, zand, q2, q1, q3, zw32_i (by omega)]
              have s1 : zar 10 (k : Int) 1 = ((k / 2 : Nat) : Int) := by rw [zshr_n (n := 1) (by decide)]; rfl
              have s2 : zar 10 (k : Int) 2 = ((k / 4 : Nat) : Int) := by rw [zshr_n (n := 2) (by decide)]; rfl
              exact ⟨an k k8, by rw [s1, an _ (by omega)], s2⟩
            obtain ⟨b1, b2, b3⟩ := b1
            have mm : ∀ a : Nat, (a = 0 ∨ a = 1) → zar 2 (2 ^ n) (a : Int) = (a : Int) * 2 ^ n ∧ 0 ≤ (a : Int) * 2 ^ n ∧ (a : Int) * 2 ^ n ≤ 2 ^ n := by
              intro a ha
              rw [za_2, Int.mul_comm]
              rcases ha with rfl | rfl
              · rw [show ((0 : Nat) : Int) * 2 ^ n = 0 from Int.zero_mul _, zw32_i (by decide)]; exact ⟨rfl, by omega, by omega⟩
              · rw [show ((1 : Nat) : Int) * 2 ^ n = 2 ^ n from Int.one_mul _, zw32_i (by omega)]; exact ⟨rfl, by omega, by omega⟩
            obtain ⟨m1, m1a, m1b⟩ := mm (k % 2) (by omega)
            obtain ⟨m2, m2a, m2b⟩ := mm (k / 2 % 2) (by omega)
            obtain ⟨m3, m3a, m3b⟩ := mm (k / 4) (by omega)
            have ad : ∀ u v : Int, 0 ≤ u → u ≤ 16 → 0 ≤ v → v ≤ 16 → zar 0 u v = u + v := fun u v a b c e => by rw [za_0, zw32_i (by omega)]
            obtain ⟨σ3, k1, k2⟩ := ih (by omega) d (x + ((k % 2 : Nat) : Int) * 2 ^ n) (y + ((k / 2 % 2 : Nat) : Int) * 2 ^ n) (z + ((k / 4 : Nat) : Int) * 2 ^ n) σ2 (by omega) (by omega) (by omega) (by omega) hσ2
            have hσ3 : σ3 210 = T := (funext fun k => k2 _ _ (by decide) (by decide)).trans hσ2
            obtain ⟨σ4, j1, j2⟩ := it (k + 1) (zlng 0 v5) σ3 (by omega) hσ3
            have zb := zlk_b T s n (x + ((k % 2 : Nat) : Int) * 2 ^ n) (y + ((k / 2 % 2 : Nat) : Int) * 2 ^ n) (z + ((k / 4 : Nat) : Int) * 2 ^ n)
            have sb : ∀ j : Nat, 0 ≤ ySm (yes n (zlkN T s n) x y z) j ∧ ySm (yes n (zlkN T s n) x y z) j ≤ j * yS n := by
              intro j
              induction j with
              | zero => exact ⟨Int.le_refl _, by show (0 : Int) ≤ ((0 : Nat) : Int) * yS n; rw [show ((0 : Nat) : Int) * yS n = 0 from Int.zero_mul _]; exact Int.le_refl _⟩
              | succ j ij =>
                have zj := zlk_b T s n (x + ((j % 2 : Nat) : Int) * 2 ^ n) (y + ((j / 2 % 2 : Nat) : Int) * 2 ^ n) (z + ((j / 4 : Nat) : Int) * 2 ^ n)
                have es : ySm (yes n (zlkN T s n) x y z) (j + 1) = ySm (yes n (zlkN T s n) x y z) j + zlkN T s n (x + ((j % 2 : Nat) : Int) * 2 ^ n) (y + ((j / 2 % 2 : Nat) : Int) * 2 ^ n) (z + ((j / 4 : Nat) : Int) * 2 ^ n) := rfl
                have em : ((j + 1 : Nat) : Int) * yS n = j * yS n + yS n := by rw [Int.natCast_succ, Int.add_mul, Int.one_mul]
                omega
            have yb : yS n ≤ 4681 := by
              have : n = 0 ∨ n = 1 ∨ n = 2 ∨ n = 3 ∨ n = 4 := by omega
              rcases this with rfl | rfl | rfl | rfl | rfl <;> decide
            have sk := sb k
            have mk : (k : Int) * yS n ≤ 8 * 4681 := by
              have := Int.mul_le_mul (show (k : Int) ≤ 8 by omega) yb (by omega) (by decide)
              omega
            have es : ySm (yes n (zlkN T s n) x y z) (k + 1) = ySm (yes n (zlkN T s n) x y z) k + zlkN T s n (x + ((k % 2 : Nat) : Int) * 2 ^ n) (y + ((k / 2 % 2 : Nat) : Int) * 2 ^ n) (z + ((k / 4 : Nat) : Int) * 2 ^ n) := rfl
            have ew : zar 0 (1 + ySm (yes n (zlkN T s n) x y z) k) (zlkN T s n (x + ((k % 2 : Nat) : Int) * 2 ^ n) (y + ((k / 2 % 2 : Nat) : Int) * 2 ^ n) (z + ((k / 4 : Nat) : Int) * 2 ^ n)) = 1 + ySm (yes n (zlkN T s n) x y z) (k + 1) := by
              rw [es, za_0, zw32_i (by omega)]; omega
            rw [hX12_looked_47, if_pos (by omega), b1, b2, b3, m1, m2, m3, ad x _ (by omega) (by omega) m1a (by omega), ad y _ (by omega) (by omega) m2a (by omega), ad z _ (by omega) (by omega) m3a (by omega), k1, Option.bind_some]
            dsimp only
            rw [ew, ek, j1]
            exact ⟨σ4, rfl, fun c k u v => (j2 c k u v).trans (k2 c k u v)⟩
        obtain ⟨σ2, k1, k2⟩ := loop 8 0 (zI (2 ^ (n + 1))) σ1 rfl hσ1
        have ef : 1 + ySm (yes n (zlkN T s n) x y z) 8 = zlkN T s (n + 1) x y z := by
          rw [zlkN, if_pos (by omega)]
          have z0 : ((0 : Nat) : Int) * 2 ^ n = 0 := Int.zero_mul _
          have z1 : ((1 : Nat) : Int) * 2 ^ n = 2 ^ n := Int.one_mul _
          simp only [ySm, yes, show 0 / 4 = 0 from rfl, show 1 / 4 = 0 from rfl, show 2 / 4 = 0 from rfl, show 3 / 4 = 0 from rfl, show 4 / 4 = 1 from rfl, show 5 / 4 = 1 from rfl, show 6 / 4 = 1 from rfl, show 7 / 4 = 1 from rfl,
            show 0 / 2 % 2 = 0 from rfl, show 1 / 2 % 2 = 0 from rfl, show 2 / 2 % 2 = 1 from rfl, show 3 / 2 % 2 = 1 from rfl, show 4 / 2 % 2 = 0 from rfl, show 5 / 2 % 2 = 0 from rfl, show 6 / 2 % 2 = 1 from rfl, show 7 / 2 % 2 = 1 from rfl,
            show 0 % 2 = 0 from rfl, show 1 % 2 = 1 from rfl, show 2 % 2 = 0 from rfl, show 3 % 2 = 1 from rfl, show 4 % 2 = 0 from rfl, show 5 % 2 = 1 from rfl, show 6 % 2 = 0 from rfl, show 7 % 2 = 1 from rfl, z0, z1, Int.add_zero]
          omega
        rw [ef] at k1
        exact ⟨σ2, k1, fun c k u v => (k2 c k u v).trans (f c k u v)⟩
    · rw [if_neg c1, zlkN, if_neg (by omega)]
      exact ⟨σ1, rfl, f⟩
end
