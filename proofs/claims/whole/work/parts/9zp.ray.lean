section
/-! Call 27: ray -/
/-- a way through places: first step in, how many in, how often over -/
def yry (g : Int → Bool) (dx dy dz : Int) : Nat → Int → Int → Int → Int → Int → Int → Int → Int → Int × Int × Int
  | 0, _, _, _, _, fi, ma, tu, _ => (fi, ma, tu)
  | m + 1, k, x, y, z, fi, ma, tu, wa =>
    if (0 ≤ x ∧ x ≤ 15) ∧ (0 ≤ y ∧ y ≤ 15) ∧ 0 ≤ z ∧ z ≤ 15 then
      yry g dx dy dz m (k + 1) (x + dx) (y + dy) (z + dz) (if g (256 * x + 16 * y + z) = true ∧ fi < 0 then k else fi) (ma + yb1 (g (256 * x + 16 * y + z))) (tu + (if 0 < k ∧ yb1 (g (256 * x + 16 * y + z)) ≠ wa then 1 else 0)) (yb1 (g (256 * x + 16 * y + z)))
    else (fi, ma, tu)
/-- the place at x, y, z, or none -/
def ypt (x y z : Int) : Int := if (0 ≤ x ∧ x ≤ 15) ∧ (0 ≤ y ∧ y ≤ 15) ∧ 0 ≤ z ∧ z ≤ 15 then 256 * x + 16 * y + z else -1
theorem ypt_m {x y z dx dy dz : Int} (h : (0 ≤ x ∧ x ≤ 15) ∧ (0 ≤ y ∧ y ≤ 15) ∧ 0 ≤ z ∧ z ≤ 15) : ymo (ymo (ymo (256 * x + 16 * y + z) 0 dx) 1 dy) 2 dz = ypt (x + dx) (y + dy) (z + dz) := by
  have n1 : ∀ ax b, ymo (-1) ax b = -1 := fun ax b => by rw [ymo, if_neg (fun u => by omega)]
  have o0 : zon (256 * x + 16 * y + z) 0 = x := by show (256 * x + 16 * y + z) / 256 = x; omega
  have e1 : ymo (256 * x + 16 * y + z) 0 dx = if 0 ≤ x + dx ∧ x + dx ≤ 15 then 256 * (x + dx) + 16 * y + z else -1 := by
    rw [ymo, o0]
    by_cases c : 0 ≤ x + dx ∧ x + dx ≤ 15
    · rw [if_pos ⟨by omega, c⟩, if_pos c]; show _ + dx * 256 = _; omega
    · rw [if_neg (fun u => c u.2), if_neg c]
  rw [e1, ypt]
  by_cases c : 0 ≤ x + dx ∧ x + dx ≤ 15
  · have o1 : zon (256 * (x + dx) + 16 * y + z) 1 = y := by show (256 * (x + dx) + 16 * y + z) / 16 % 16 = y; omega
    have e2 : ymo (256 * (x + dx) + 16 * y + z) 1 dy = if 0 ≤ y + dy ∧ y + dy ≤ 15 then 256 * (x + dx) + 16 * (y + dy) + z else -1 := by
      rw [ymo, o1]
      by_cases c : 0 ≤ y + dy ∧ y + dy ≤ 15
      · rw [if_pos ⟨by omega, c⟩, if_pos c]; show _ + dy * 16 = _; omega
      · rw [if_neg (fun u => c u.2), if_neg c]
    rw [if_pos c, e2]
    by_cases c1 : 0 ≤ y + dy ∧ y + dy ≤ 15
    · have o2 : zon (256 * (x + dx) + 16 * (y + dy) + z) 2 = z := by show (256 * (x + dx) + 16 * (y + dy) + z) % 16 = z; omega
      rw [if_pos c1, ymo, o2]
      by_cases c2 : 0 ≤ z + dz ∧ z + dz ≤ 15
      · rw [if_pos ⟨by omega, c2⟩, if_pos ⟨c, c1, c2⟩]; show _ + dz * 1 = _; omega
      · rw [if_neg (fun u => c2 u.2), if_neg (fun u => c2 u.2.2)]
    · rw [if_neg c1, n1, if_neg (fun u => c1 u.2.1)]
  · rw [if_neg c, n1, n1, if_neg (fun u => c u.1)]
theorem l_131s (w : zW) {d : Nat} (hd : 2 ≤ d) {a o p dx dy dz k wa fi ma tu : Int} {g : Int → Bool} {σ : zMem} {v2 v9 : zV} (ro : zR w a 0 = o) (ho : o ≠ 169) (P : zPS σ o g) (hp : 0 ≤ p ∧ p < 4096) (hx : -4 ≤ dx ∧ dx ≤ 4) (hy : -4 ≤ dy ∧ dy ≤ 4) (hz : -4 ≤ dz ∧ dz ≤ 4) (hk : 0 ≤ k ∧ k < 16) (f2 : σ 169 2 = fi) (f3 : σ 169 3 = ma) (f4 : σ 169 4 = tu) (hfi : -1 ≤ fi) (b3 : 0 ≤ ma ∧ ma ≤ 100) (b4 : 0 ≤ tu ∧ tu ≤ 100) :
    ∃ v9' σ', zden w (d + 1) 131 17 [zA 11 8 169, zA 6 1 a, v2, zI dx, zI dy, zI dz, zI p, zI wa, zI k, v9] [] σ = zden w (d + 1) 131 17 [zA 11 8 169, zA 6 1 a, v2, zI dx, zI dy, zI dz, zI (ymo (ymo (ymo p 0 dx) 1 dy) 2 dz), zI (yb1 (g p)), zI (k + 1), v9'] [] σ'
      ∧ σ' 169 2 = (if g p = true ∧ fi < 0 then k else fi) ∧ σ' 169 3 = ma + yb1 (g p) ∧ σ' 169 4 = tu + (if yb1 (g p) ≠ wa then 1 else 0) ∧ ∀ c j, c ≠ 169 → σ' c j = σ c j := by
  have ek : zar 0 k 1 = k + 1 := by rw [za_0, zw32_i (by omega)]
  have mv := fun (q ax b : Int) (h1 : 0 ≤ ax ∧ ax ≤ 2) (h2 : -4 ≤ b ∧ b ≤ 4) (σ : zMem) => s_211 w hd (p := q) h1 (b := b) (by omega) σ
  have z0 : ∀ u : Int, 0 ≤ u → u ≤ 100 → zar 0 u 0 = u + 0 := fun u a b => by rw [za_0, zw32_i (by omega)]
  have z1 : ∀ u : Int, 0 ≤ u → u ≤ 100 → zar 0 u 1 = u + 1 := fun u a b => by rw [za_0, zw32_i (by omega)]
  have yb : zt (g p = true) = yb1 (g p) := rfl
  rw [hX10_walk_17, if_pos hk.2, if_neg (by omega), s_49g w (by omega) ro P, Option.bind_some, yvl_p hp, yb]
  dsimp only
  have tail : ∀ (σb : zMem) (r : Int), r = yb1 (g p) → ((zcall w d 211 [zI p, zI 0, zI dx] σb).bind fun r2 => (zcall w d 211 [zI r2.1, zI 1, zI dy] r2.2).bind fun r3 => (zcall w d 211 [zI r3.1, zI 2, zI dz] r3.2).bind fun r4 => zden w (d + 1) 131 17 [zA 11 8 169, zA 6 1 a, v2, zI dx, zI dy, zI dz, zI r4.1, zI r, zI (zar 0 k 1), zI r] [] r4.2)
      = zden w (d + 1) 131 17 [zA 11 8 169, zA 6 1 a, v2, zI dx, zI dy, zI dz, zI (ymo (ymo (ymo p 0 dx) 1 dy) 2 dz), zI (yb1 (g p)), zI (k + 1), zI (yb1 (g p))] [] σb := by
    intro σb r hr
    rw [mv p 0 dx (by decide) hx, Option.bind_some]
    dsimp only
    rw [mv _ 1 dy (by decide) hy, Option.bind_some]
    dsimp only
    rw [mv _ 2 dz (by decide) hz, Option.bind_some]
    dsimp only
    rw [hr, ek]
  have up3 : ∀ (σ0 : zMem) (u v : Int), σ0 169 3 = ma → σ0 169 4 = tu → (u = 0 ∨ u = 1) → (v = 0 ∨ v = 1) → (∃ σb, σb = zup (zup σ0 169 3 (zar 0 (σ0 169 3) u)) 169 4 (zar 0 ((zup σ0 169 3 (zar 0 (σ0 169 3) u)) 169 4) v) ∧ σb 169 2 = σ0 169 2 ∧ σb 169 3 = ma + u ∧ σb 169 4 = tu + v ∧ ∀ c j, c ≠ 169 → σb c j = σ0 c j) := by
    intro σ0 u v e3 e4 hu hv
    refine ⟨_, rfl, ?_, ?_, ?_, fun c j h => ?_⟩
    · rw [zup_f (by omega), zup_f (by omega)]
    · rw [zup_f (by omega), zup_t ⟨rfl, rfl, by decide⟩, e3]
      rcases hu with rfl | rfl
      · exact z0 ma b3.1 b3.2
      · exact z1 ma b3.1 b3.2
    · rw [zup_t ⟨rfl, rfl, by decide⟩, zup_f (by omega), e4]
      rcases hv with rfl | rfl
      · exact z0 tu b4.1 b4.2
      · exact z1 tu b4.1 b4.2
    · rw [zup_f (by omega), zup_f (by omega)]
  by_cases c : g p = true
  · have e1 : yb1 (g p) = 1 := by unfold yb1; rw [if_pos c]
    rw [e1, if_neg (by decide)]
    by_cases c2 : fi = -1
    · have g3 : zup σ 169 2 k 169 3 = ma := by rw [zup_f (by omega)]; exact f3
      have g4 : zup σ 169 2 k 169 4 = tu := by rw [zup_f (by omega)]; exact f4
      have g2 : zup σ 169 2 k 169 2 = k := zup_t ⟨rfl, rfl, by decide⟩
      rw [if_pos (show σ 169 2 = -1 by rw [f2]; exact c2), if_neg (by decide)]
      by_cases c3 : 1 = wa
      · obtain ⟨σb, hσ, q2, q3, q4, q5⟩ := up3 (zup σ 169 2 k) 1 0 g3 g4 (Or.inr rfl) (Or.inl rfl)
        rw [if_pos c3, ← hσ, tail σb 1 e1.symm, e1]
        exact ⟨_, σb, rfl, by rw [q2, g2, if_pos ⟨c, by omega⟩], q3, by rw [q4, if_neg (fun u => u c3)], fun c j h => (q5 c j h).trans (zup_f (by omega))⟩
      · obtain ⟨σb, hσ, q2, q3, q4, q5⟩ := up3 (zup σ 169 2 k) 1 1 g3 g4 (Or.inr rfl) (Or.inr rfl)
        rw [if_neg c3, ← hσ, tail σb 1 e1.symm, e1]
        exact ⟨_, σb, rfl, by rw [q2, g2, if_pos ⟨c, by omega⟩], q3, by rw [q4, if_pos c3], fun c j h => (q5 c j h).trans (zup_f (by omega))⟩
    · rw [if_neg (show ¬ σ 169 2 = -1 by rw [f2]; exact c2), if_neg (by decide)]
      by_cases c3 : 1 = wa
      · obtain ⟨σb, hσ, q2, q3, q4, q5⟩ := up3 σ 1 0 f3 f4 (Or.inr rfl) (Or.inl rfl)
        rw [if_pos c3, ← hσ, tail σb 1 e1.symm, e1]
        exact ⟨_, σb, rfl, by rw [q2, f2, if_neg (fun u => by omega)], q3, by rw [q4, if_neg (fun u => u c3)], q5⟩
      · obtain ⟨σb, hσ, q2, q3, q4, q5⟩ := up3 σ 1 1 f3 f4 (Or.inr rfl) (Or.inr rfl)
        rw [if_neg c3, ← hσ, tail σb 1 e1.symm, e1]
        exact ⟨_, σb, rfl, by rw [q2, f2, if_neg (fun u => by omega)], q3, by rw [q4, if_pos c3], q5⟩
  · have e1 : yb1 (g p) = 0 := by unfold yb1; rw [if_neg c]
    rw [e1, if_pos rfl, if_pos rfl]
    by_cases c3 : 0 = wa
    · obtain ⟨σb, hσ, q2, q3, q4, q5⟩ := up3 σ 0 0 f3 f4 (Or.inl rfl) (Or.inl rfl)
      rw [if_pos c3, ← hσ, tail σb 0 e1.symm, e1]
      exact ⟨_, σb, rfl, by rw [q2, f2, if_neg (fun u => c u.1)], q3, by rw [q4, if_neg (fun u => u c3)], q5⟩
    · obtain ⟨σb, hσ, q2, q3, q4, q5⟩ := up3 σ 0 1 f3 f4 (Or.inl rfl) (Or.inr rfl)
      rw [if_neg c3, ← hσ, tail σb 0 e1.symm, e1]
      exact ⟨_, σb, rfl, by rw [q2, f2, if_neg (fun u => c u.1)], q3, by rw [q4, if_pos c3], q5⟩
theorem l_131 (w : zW) {d : Nat} (hd : 2 ≤ d) {a o dx dy dz : Int} {g : Int → Bool} {v2 : zV} (ro : zR w a 0 = o) (ho : o ≠ 169) (hx : -4 ≤ dx ∧ dx ≤ 4) (hy : -4 ≤ dy ∧ dy ≤ 4) (hz : -4 ≤ dz ∧ dz ≤ 4) : ∀ (m : Nat) (k x y z wa fi ma tu : Int) (v9 : zV) (σ : zMem), 0 ≤ k → k + m = 16 → zPS σ o g → σ 169 2 = fi → σ 169 3 = ma → σ 169 4 = tu → -1 ≤ fi → (0 ≤ ma ∧ ma ≤ k) → (0 ≤ tu ∧ tu ≤ k) → (k = 0 → ypt x y z ≠ -1 → wa = yb1 (g (ypt x y z))) →
    ∃ σ', zden w (d + 1) 131 17 [zA 11 8 169, zA 6 1 a, v2, zI dx, zI dy, zI dz, zI (ypt x y z), zI wa, zI k, v9] [] σ = some (0, σ') ∧ (σ' 169 2, σ' 169 3, σ' 169 4) = yry g dx dy dz m k x y z fi ma tu wa ∧ ∀ c j, c ≠ 169 → σ' c j = σ c j := by
  intro m
  induction m with
  | zero =>
    intro k x y z wa fi ma tu v9 σ k0 h P f2 f3 f4 _ _ _ _
    rw [hX10_walk_17, if_neg (by omega)]
    exact ⟨σ, rfl, by rw [f2, f3, f4]; rfl, fun _ _ _ => rfl⟩
  | succ m ih =>
    intro k x y z wa fi ma tu v9 σ k0 h P f2 f3 f4 hf b3 b4 hw
    by_cases c : (0 ≤ x ∧ x ≤ 15) ∧ (0 ≤ y ∧ y ≤ 15) ∧ 0 ≤ z ∧ z ≤ 15
    · have e : ypt x y z = 256 * x + 16 * y + z := if_pos c
      rw [e] at hw ⊢
      obtain ⟨v9', σ1, q1, q2, q3, q4, q5⟩ := l_131s w hd (dx := dx) (dy := dy) (dz := dz) (v2 := v2) (v9 := v9) (wa := wa) ro ho P (p := 256 * x + 16 * y + z) (by omega) hx hy hz ⟨k0, by omega⟩ f2 f3 f4 hf (by omega) (by omega)
      rw [ypt_m c] at q1
      have yb := yb1_b (g (256 * x + 16 * y + z))
      obtain ⟨σ2, r1, r2, r3⟩ := ih (k + 1) (x + dx) (y + dy) (z + dz) (yb1 (g (256 * x + 16 * y + z))) _ _ _ v9' σ1 (by omega) (by omega) (zPS_fr (fun j => q5 _ _ ho) P) q2 q3 q4 (by split <;> omega) (by omega) (by split <;> omega) (fun u => by omega)
      rw [q1, r1]
      refine ⟨σ2, rfl, ?_, fun c j u => (r3 c j u).trans (q5 c j u)⟩
      rw [r2, yry, if_pos c]
      congr 1
      by_cases hk : 0 < k
      · by_cases cw : yb1 (g (256 * x + 16 * y + z)) ≠ wa
        · rw [if_pos cw, if_pos ⟨hk, cw⟩]
        · rw [if_neg cw, if_neg (fun u => cw u.2)]
      · have := hw (by omega) (by omega)
        rw [if_neg (fun u => u this.symm), if_neg (fun u => hk u.1)]
    · have e : ypt x y z = -1 := if_neg c
      rw [e, hX10_walk_17, if_pos (by omega), if_pos rfl, yry, if_neg c]
      exact ⟨σ, rfl, by rw [f2, f3, f4], fun _ _ _ => rfl⟩
theorem yry_0 (g : Int → Bool) (dx dy dz : Int) (m : Nat) (x y z fi ma tu wa : Int) : yry g dx dy dz (m + 1) 0 x y z fi ma tu wa = yry g dx dy dz (m + 1) 0 x y z fi ma tu 0 := by
  have h : ∀ q v : Int, (if (0 : Int) < 0 ∧ q ≠ v then (1 : Int) else 0) = 0 := fun q v => if_neg (fun u => by omega)
  rw [yry, yry, h, h]
theorem l_257 (w : zW) {d : Nat} (hd : 20 ≤ d) {s n dx dy dz wh x0 y0 z0 : Int} {σ : zMem} (hT : zWF (σ 210) n) (hs : 0 ≤ s ∧ s < n) (hx : -4 ≤ dx ∧ dx ≤ 4) (hy : -4 ≤ dy ∧ dy ≤ 4) (hz : -4 ≤ dz ∧ dz ≤ 4) (nz : ¬ (dx = 0 ∧ dy = 0 ∧ dz = 0)) (hx0 : 0 ≤ x0 ∧ x0 ≤ 15) (hy0 : 0 ≤ y0 ∧ y0 ≤ 15) (hz0 : 0 ≤ z0 ∧ z0 ≤ 15) : ∀ (m : Nat) (k x y z wa fi ma tu : Int) (v2 v15 : zV), 0 ≤ k → k + m = 16 → (x = x0 + k * dx ∧ y = y0 + k * dy ∧ z = z0 + k * dz) → (-1 ≤ fi ∧ fi ≤ 16) → (0 ≤ ma ∧ ma ≤ k) → (0 ≤ tu ∧ tu ≤ k) → (wa = 0 ∨ wa = 1) →
    zden w (d + 1) 257 60 [zA 13 32 209, zI s, v2, zI dx, zI dy, zI dz, zI wh, zI fi, zI ma, zI tu, zI wa, zI x, zI y, zI z, zI k, v15] [] σ = some (if wh = 0 then (yry (zns (σ 210) s) dx dy dz m k x y z fi ma tu wa).1 else if wh = 1 then (yry (zns (σ 210) s) dx dy dz m k x y z fi ma tu wa).2.1 else (yry (zns (σ 210) s) dx dy dz m k x y z fi ma tu wa).2.2, σ) := by
  have gs := (hT.2.2 s hs.1 hs.2).2
  have out : ∀ (k x y z wa fi ma tu : Int) (v2 v15 : zV), ¬ ((0 ≤ x ∧ x ≤ 15) ∧ (0 ≤ y ∧ y ≤ 15) ∧ 0 ≤ z ∧ z ≤ 15) → zden w (d + 1) 257 60 [zA 13 32 209, zI s, v2, zI dx, zI dy, zI dz, zI wh, zI fi, zI ma, zI tu, zI wa, zI x, zI y, zI z, zI k, v15] [] σ = some (if wh = 0 then fi else if wh = 1 then ma else tu, σ) := by
    intro k x y z wa fi ma tu v2 v15 c
    rw [hX12_ray_60, s_213, Option.bind_some]
    dsimp only
    rw [zt_if]
    by_cases cx : 0 ≤ x ∧ x ≤ 15
    · rw [if_pos cx, s_213, Option.bind_some]
      dsimp only
      rw [zt_if]
      by_cases cy : 0 ≤ y ∧ y ≤ 15
      · rw [if_pos cy, s_213, Option.bind_some]
        dsimp only
        rw [zt_if, if_neg (fun u => c ⟨cx, cy, u⟩)]
        (repeat' split) <;> rfl
      · rw [if_neg cy]
        (repeat' split) <;> rfl
    · rw [if_neg cx]
      (repeat' split) <;> rfl
  intro m
  induction m with
  | zero =>
    intro k x y z wa fi ma tu v2 v15 k0 h e _ _ _ _
    have : k = 16 := by omega
    subst this
    rw [out 16 x y z wa fi ma tu v2 v15 (fun u => by omega)]
    rfl
  | succ m ih =>
    intro k x y z wa fi ma tu v2 v15 k0 h e bf b3 b4 bw
    by_cases c : (0 ≤ x ∧ x ≤ 15) ∧ (0 ≤ y ∧ y ≤ 15) ∧ 0 ≤ z ∧ z ≤ 15
    · have ek : zar 0 k 1 = k + 1 := by rw [za_0, zw32_i (by omega)]
      have ex : zar 0 x dx = x + dx := by rw [za_0, zw32_i (by omega)]
      have ey : zar 0 y dy = y + dy := by rw [za_0, zw32_i (by omega)]
      have ez : zar 0 z dz = z + dz := by rw [za_0, zw32_i (by omega)]
      have m0 : zar 0 ma 0 = ma + 0 := by rw [za_0, zw32_i (by omega)]
      have m1 : zar 0 ma 1 = ma + 1 := by rw [za_0, zw32_i (by omega)]
      have t0 : zar 0 tu 0 = tu + 0 := by rw [za_0, zw32_i (by omega)]
      have t1 : zar 0 tu 1 = tu + 1 := by rw [za_0, zw32_i (by omega)]
      have e2 : x + dx = x0 + (k + 1) * dx ∧ y + dy = y0 + (k + 1) * dy ∧ z + dz = z0 + (k + 1) * dz := by
        rw [Int.add_mul, Int.add_mul, Int.add_mul]; omega
      have ef := s_219 w (n := n) 7 d s x y z σ hT (by omega) hs.1 hs.2 (by omega) (by omega) (by omega) (by omega)
      have en : zns (σ 210) s (256 * x + 16 * y + z) = decide (zwd (σ 210) 7 s x y z ≤ 0) := by
        unfold zns
        rw [show (256 * x + 16 * y + z) / 256 = x by omega, show (256 * x + 16 * y + z) / 16 % 16 = y by omega, show (256 * x + 16 * y + z) % 16 = z by omega]
      have nx : ∀ (b : Bool), zns (σ 210) s (256 * x + 16 * y + z) = b → ∀ fi' ma' tu' : Int, fi' = (if b = true ∧ fi < 0 then k else fi) → ma' = ma + yb1 b → tu' = tu + (if 0 < k ∧ yb1 b ≠ wa then 1 else 0) → ∀ v15, zden w (d + 1) 257 60 [zA 13 32 209, zI s, v2, zI dx, zI dy, zI dz, zI wh, zI fi', zI ma', zI tu', zI (yb1 b), zI (x + dx), zI (y + dy), zI (z + dz), zI (k + 1), v15] [] σ
          = some (if wh = 0 then (yry (zns (σ 210) s) dx dy dz (m + 1) k x y z fi ma tu wa).1 else if wh = 1 then (yry (zns (σ 210) s) dx dy dz (m + 1) k x y z fi ma tu wa).2.1 else (yry (zns (σ 210) s) dx dy dz (m + 1) k x y z fi ma tu wa).2.2, σ) := by
        intro b hb fi' ma' tu' h1 h2 h3 v15
        have yb := yb1_b b
        rw [ih (k + 1) (x + dx) (y + dy) (z + dz) (yb1 b) fi' ma' tu' v2 v15 (by omega) (by omega) e2 (by rw [h1]; split <;> omega) (by omega) (by rw [h3]; split <;> omega) (by omega)]
        have : yry (zns (σ 210) s) dx dy dz (m + 1) k x y z fi ma tu wa = yry (zns (σ 210) s) dx dy dz m (k + 1) (x + dx) (y + dy) (z + dz) fi' ma' tu' (yb1 b) := by
          rw [yry, if_pos c, hb, h1, h2, h3]
        rw [this]
      rw [hX12_ray_60, s_213, Option.bind_some]
      dsimp only
      rw [zt_if, if_pos c.1, s_213, Option.bind_some]
      dsimp only
      rw [zt_if, if_pos c.2.1, s_213, Option.bind_some]
      dsimp only
      rw [zt_if, if_pos c.2.2, ef, Option.bind_some]
      dsimp only
      rw [zcmp_gt, ek, ex, ey, ez, m0, m1, t0, t1]
      by_cases ca : 0 < zwd (σ 210) 7 s x y z
      · have hb : zns (σ 210) s (256 * x + 16 * y + z) = false := by rw [en]; exact decide_eq_false (by omega)
        have y0' : yb1 false = 0 := rfl
        rw [if_pos ca]
        by_cases k1 : 0 < k
        · rw [if_pos k1]
          by_cases cw : 0 = wa
          · rw [if_pos cw]
            exact nx false hb _ _ _ (by rw [if_neg (fun u => by cases u.1)]) rfl (by rw [y0', if_neg (fun u => u.2 cw)]) _
          · rw [if_neg cw]
            exact nx false hb _ _ _ (by rw [if_neg (fun u => by cases u.1)]) rfl (by rw [y0', if_pos ⟨k1, cw⟩]) _
        · rw [if_neg k1]
          exact nx false hb _ _ _ (by rw [if_neg (fun u => by cases u.1)]) rfl (by rw [if_neg (fun u => k1 u.1)]) _
      · have hb : zns (σ 210) s (256 * x + 16 * y + z) = true := by rw [en]; exact decide_eq_true (by omega)
        have y1' : yb1 true = 1 := rfl
        rw [if_neg ca]
        by_cases cf : fi < 0
        · rw [if_pos cf]
          by_cases k1 : 0 < k
          · rw [if_pos k1]
            by_cases cw : 1 = wa
            · rw [if_pos cw]
              exact nx true hb _ _ _ (by rw [if_pos ⟨rfl, cf⟩]) rfl (by rw [y1', if_neg (fun u => u.2 cw)]) _
            · rw [if_neg cw]
              exact nx true hb _ _ _ (by rw [if_pos ⟨rfl, cf⟩]) rfl (by rw [y1', if_pos ⟨k1, cw⟩]) _
          · rw [if_neg k1]
            exact nx true hb _ _ _ (by rw [if_pos ⟨rfl, cf⟩]) rfl (by rw [if_neg (fun u => k1 u.1)]) _
        · rw [if_neg cf]
          by_cases k1 : 0 < k
          · rw [if_pos k1]
            by_cases cw : 1 = wa
            · rw [if_pos cw]
              exact nx true hb _ _ _ (by rw [if_neg (fun u => cf u.2)]) rfl (by rw [y1', if_neg (fun u => u.2 cw)]) _
            · rw [if_neg cw]
              exact nx true hb _ _ _ (by rw [if_neg (fun u => cf u.2)]) rfl (by rw [y1', if_pos ⟨k1, cw⟩]) _
          · rw [if_neg k1]
            exact nx true hb _ _ _ (by rw [if_neg (fun u => cf u.2)]) rfl (by rw [if_neg (fun u => k1 u.1)]) _
    · rw [out k x y z wa fi ma tu v2 v15 c, yry, if_neg c]
theorem s_205 (w : zW) {d : Nat} (hd : 1 ≤ d) (x : Int) (σ : zMem) : zcall w d 205 [zI x] σ = some (zt (-4 ≤ x ∧ x ≤ 4), σ) := by
  obtain ⟨d, rfl⟩ : ∃ e, d = e + 1 := ⟨d - 1, by omega⟩
  rw [eX11_isStep]
  simp only [s_200, Option.bind_some, zt_01]
theorem op_27 (w : zW) (x1 x2 x3 x4 x5 x6 : Int) : zOp zInv w 170 257 [zI x1, zI x2, zI x3, zI x4, zI x5, zI x6] := by
  intro σ hI
  have hA := eX11_ray w 998 x1 x2 x3 x4 x5 x6 σ
  by_cases h : (0 ≤ x1 ∧ x1 < σ 209 1) ∧ (0 ≤ x2 ∧ x2 < 4096) ∧ (-4 ≤ x3 ∧ x3 ≤ 4) ∧ (-4 ≤ x4 ∧ x4 ≤ 4) ∧ (-4 ≤ x5 ∧ x5 ≤ 4) ∧ (0 ≤ x6 ∧ x6 ≤ 2) ∧ ¬ (x3 = 0 ∧ x4 = 0 ∧ x5 = 0)
  · obtain ⟨h1, h2, h3, h4, h5, h6, h7⟩ := h
    have h24 := hI.2.1.1.2.1
    have r2 := (yr_86 w (s := x1) ⟨h1.1, by omega⟩).2
    obtain ⟨σ1, m, P, I1, E, n1, -⟩ := s_198 w (d := 998) (by decide) hI h1.1 h1.2
    have hp : ypt (x2 / 256) (x2 / 16 % 16) (x2 % 16) = x2 := by rw [ypt, if_pos (by omega)]; omega
    obtain ⟨μ, hμ⟩ : ∃ μ, μ = zup (zup (zup σ1 169 2 (-1)) 169 3 0) 169 4 0 := ⟨_, rfl⟩
    have fμ : ∀ c j, c ≠ 169 → μ c j = σ1 c j := fun c j u => by rw [hμ, zup_f (by omega), zup_f (by omega), zup_f (by omega)]
    have Pμ : zPS μ (122 + 2 * x1) (zns (σ 210) x1) := zPS_fr (fun k => fμ _ _ (by omega)) P
    obtain ⟨σ2, k1, k2, k3⟩ := l_131 w (d := 997) (by decide) (g := zns (σ 210) x1) (v2 := zI x2) r2 (by omega) h3 h4 h5 16 0 (x2 / 256) (x2 / 16 % 16) (x2 % 16) (yb1 (zns (σ 210) x1 x2)) (-1) 0 0 zU μ (by decide) (by decide) Pμ (by rw [hμ, zup_f (by omega), zup_f (by omega), zup_t ⟨rfl, rfl, by decide⟩]) (by rw [hμ, zup_f (by omega), zup_t ⟨rfl, rfl, by decide⟩]) (by rw [hμ, zup_t ⟨rfl, rfl, by decide⟩]) (by decide) (by decide) (by decide) (fun _ _ => by rw [hp])
    rw [hp] at k1
    have e131 : zcall w 998 131 [zA 11 8 169, zA 6 1 (121 + 2 * x1), zI x2, zI x3, zI x4, zI x5] σ1 = some (0, σ2) := by
      refine (eX10_walk w 997 (121 + 2 * x1) x2 x3 x4 x5 σ1).trans ?_
      rw [← hμ, s_49g w (by decide) r2 Pμ, Option.bind_some, yvl_p h2]
      exact k1
    have I2 : zInv σ2 := zalk_I I1 (zalk_s fun a k _ _ _ u _ => (k3 a k (by omega)).trans (fμ a k (by omega)))
    have T2 : σ2 210 = σ 210 := (funext fun k => (k3 _ _ (by decide)).trans (fμ _ _ (by decide))).trans E
    have n2 : σ2 209 1 = σ 209 1 := ((k3 _ _ (by decide)).trans (fμ _ _ (by decide))).trans n1
    have eB := l_257 w (d := 998) (by decide) (s := x1) (n := σ 209 1) (wh := x6) (σ := σ2) (by rw [T2]; exact hI.2.1.1) h1 h3 h4 h5 h7 (x0 := x2 / 256) (y0 := x2 / 16 % 16) (z0 := x2 % 16) (by omega) (by omega) (by omega) 16 0 (x2 / 256) (x2 / 16 % 16) (x2 % 16) 0 (-1) 0 0 (zI x2) zU (by decide) (by decide) (by omega) (by decide) (by decide) (by decide) (by decide)
    rw [T2] at eB
    /- the first step counts no turn, whatever was before -/
    have same : yry (zns (σ 210) x1) x3 x4 x5 16 0 (x2 / 256) (x2 / 16 % 16) (x2 % 16) (-1) 0 0 (yb1 (zns (σ 210) x1 x2)) = yry (zns (σ 210) x1) x3 x4 x5 16 0 (x2 / 256) (x2 / 16 % 16) (x2 % 16) (-1) 0 0 0 := yry_0 _ _ _ _ 15 _ _ _ _ _ _ _
    rw [same] at k2
    generalize yry (zns (σ 210) x1) x3 x4 x5 16 0 (x2 / 256) (x2 / 16 % 16) (x2 % 16) (-1) 0 0 0 = V at *
    have q5 : σ2 169 2 = V.1 := congrArg Prod.fst k2
    have q6 : σ2 169 3 = V.2.1 := congrArg (fun t => t.2.1) k2
    have q7 : σ2 169 4 = V.2.2 := congrArg (fun t => t.2.2) k2
    have tl : ((zcall w 998 198 [zA 12 16 1, zI x1] σ).bind fun r14 => (zcall w 998 131 [zA 11 8 169, zA 6 1 r14.1, zI x2, zI x3, zI x4, zI x5] r14.2).bind fun r15 => if x6 = 0 then (zcall w 998 125 [zA 11 8 169] r15.2).bind fun r16 => some (r16.1, r16.2) else if x6 = 1 then (zcall w 998 126 [zA 11 8 169] r15.2).bind fun r17 => some (r17.1, r17.2) else (zcall w 998 127 [zA 11 8 169] r15.2).bind fun r18 => some (r18.1, r18.2)) = some (if x6 = 0 then V.1 else if x6 = 1 then V.2.1 else V.2.2, σ2) := by
      rw [m, Option.bind_some]
      dsimp only
      rw [e131, Option.bind_some]
      dsimp only
      rw [eX10_stepsTillIn, eX10_placesIn, eX10_timesOver, q5, q6, q7]
      (repeat' split) <;> rfl
    refine yop (if x6 = 0 then V.1 else if x6 = 1 then V.2.1 else V.2.2) σ2 σ2 (hA.trans ?_) ((eX12_ray w 998 x1 x2 x3 x4 x5 x6 σ2).trans ?_) I2
    · rw [yA1 w hI, Option.bind_some]
      dsimp only
      rw [zt_if, if_pos h1, s_202, Option.bind_some]
      dsimp only
      rw [zt_if, if_pos h2, s_200, Option.bind_some]
      dsimp only
      rw [zt_if, if_pos h6, s_205 w (by decide), Option.bind_some]
      dsimp only
      rw [zt_if, if_pos h3, s_205 w (by decide), Option.bind_some]
      dsimp only
      rw [zt_if, if_pos h4, s_205 w (by decide), Option.bind_some]
      dsimp only
      rw [zt_if, if_pos h5]
      by_cases a3 : x3 = 0
      · rw [if_pos a3]
        by_cases a4 : x4 = 0
        · rw [if_pos a4, if_neg (fun u => h7 ⟨a3, a4, u⟩)]; exact tl
        · rw [if_neg a4]; exact tl
      · rw [if_neg a3]; exact tl
    · have tb : ((zcall w 998 213 [zJ x6, zJ 0, zJ 2] σ2).bind fun r12 => if r12.1 = 0 then (zcall w 998 214 [zA 13 32 209, zI (-62)] r12.2).bind fun r13 => some (r13.1, r13.2) else (zcall w 998 243 [zI x2] r12.2).bind fun r14 => (zcall w 998 244 [zI x2] r14.2).bind fun r15 => (zcall w 998 245 [zI x2] r15.2).bind fun r16 => zden w (998 + 1) 257 60 [zA 13 32 209, zI x1, zI x2, zI x3, zI x4, zI x5, zI x6, zI (-1), zI 0, zI 0, zI 0, zI r14.1, zI r15.1, zI r16.1, zI 0, zU] [] r16.2) = some (if x6 = 0 then V.1 else if x6 = 1 then V.2.1 else V.2.2, σ2) := by
        rw [s_213, Option.bind_some]
        dsimp only
        rw [zt_if, if_pos h6, s_243, Option.bind_some]
        dsimp only
        rw [s_244 w 998 h2, Option.bind_some]
        dsimp only
        rw [s_245 w 998 h2, Option.bind_some]
        exact eB
      rw [yB1 w I2, Option.bind_some]
      dsimp only
      rw [zt_if, n2, if_pos h1, s_246 w (by decide), Option.bind_some]
      dsimp only
      rw [zt_if, if_pos h2, s_213, Option.bind_some]
      dsimp only
      rw [zt_if, if_pos h3, s_213, Option.bind_some]
      dsimp only
      rw [zt_if, if_pos h4, s_213, Option.bind_some]
      dsimp only
      rw [zt_if, if_pos h5]
      by_cases a3 : x3 = 0
      · rw [if_pos a3]
        by_cases a4 : x4 = 0
        · rw [if_pos a4, if_neg (fun u => h7 ⟨a3, a4, u⟩)]; exact tb
        · rw [if_neg a4]; exact tb
      · rw [if_neg a3]; exact tb
  · refine yop (-62) (zrA σ (-62)) (zrB (zrA σ (-62)) (-62)) (hA.trans ?_) ((eX12_ray w 998 x1 x2 x3 x4 x5 x6 _).trans ?_) (zref0 hI)
    · rw [yA1 w hI, Option.bind_some]
      dsimp only
      rw [zt_if]
      by_cases u1 : 0 ≤ x1 ∧ x1 < σ 209 1
      · rw [if_pos u1, s_202, Option.bind_some]
        dsimp only
        rw [zt_if]
        by_cases u2 : 0 ≤ x2 ∧ x2 < 4096
        · rw [if_pos u2, s_200, Option.bind_some]
          dsimp only
          rw [zt_if]
          by_cases u6 : 0 ≤ x6 ∧ x6 ≤ 2
          · rw [if_pos u6, s_205 w (by decide), Option.bind_some]
            dsimp only
            rw [zt_if]
            by_cases u3 : -4 ≤ x3 ∧ x3 ≤ 4
            · rw [if_pos u3, s_205 w (by decide), Option.bind_some]
              dsimp only
              rw [zt_if]
              by_cases u4 : -4 ≤ x4 ∧ x4 ≤ 4
              · rw [if_pos u4, s_205 w (by decide), Option.bind_some]
                dsimp only
                rw [zt_if]
                by_cases u5 : -4 ≤ x5 ∧ x5 ≤ 4
                · have nz : x3 = 0 ∧ x4 = 0 ∧ x5 = 0 := Decidable.byContradiction fun u => h ⟨u1, u2, u3, u4, u5, u6, u⟩
                  rw [if_pos u5, if_pos nz.1, if_pos nz.2.1, if_pos nz.2.2]
                  exact ybA w σ
                · rw [if_neg u5]; exact ybA w σ
              · rw [if_neg u4]; exact ybA w σ
            · rw [if_neg u3]; exact ybA w σ
          · rw [if_neg u6]; exact ybA w σ
        · rw [if_neg u2]; exact ybA w σ
      · rw [if_neg u1]; exact ybA w σ
    · generalize hσ' : zrA σ (-62) = σ' at *
      have y1 := yB1' w hI x1
      rw [hσ'] at y1
      rw [y1, Option.bind_some]
      dsimp only
      rw [zt_if]
      by_cases u1 : 0 ≤ x1 ∧ x1 < σ 209 1
      · rw [if_pos u1, s_246 w (by decide), Option.bind_some]
        dsimp only
        rw [zt_if]
        by_cases u2 : 0 ≤ x2 ∧ x2 < 4096
        · rw [if_pos u2, s_213, Option.bind_some]
          dsimp only
          rw [zt_if]
          by_cases u3 : -4 ≤ x3 ∧ x3 ≤ 4
          · rw [if_pos u3, s_213, Option.bind_some]
            dsimp only
            rw [zt_if]
            by_cases u4 : -4 ≤ x4 ∧ x4 ≤ 4
            · rw [if_pos u4, s_213, Option.bind_some]
              dsimp only
              rw [zt_if]
              by_cases u5 : -4 ≤ x5 ∧ x5 ≤ 4
              · rw [if_pos u5]
                by_cases nz : x3 = 0 ∧ x4 = 0 ∧ x5 = 0
                · rw [if_pos nz.1, if_pos nz.2.1, if_pos nz.2.2]
                  exact ybB w _
                · have u6 : ¬ (0 ≤ x6 ∧ x6 ≤ 2) := fun u => h ⟨u1, u2, u3, u4, u5, u, nz⟩
                  have tb : ∀ G : Int × zMem → Option (Int × zMem), ((zcall w 998 213 [zJ x6, zJ 0, zJ 2] σ').bind fun r12 => if r12.1 = 0 then (zcall w 998 214 [zA 13 32 209, zI (-62)] r12.2).bind fun r13 => some (r13.1, r13.2) else G r12) = some (-62, zrB σ' (-62)) := by
                    intro G
                    rw [s_213, Option.bind_some]
                    dsimp only
                    rw [zt_if, if_neg u6]
                    exact ybB w _
                  by_cases a3 : x3 = 0
                  · rw [if_pos a3]
                    by_cases a4 : x4 = 0
                    · rw [if_pos a4, if_neg (fun u => nz ⟨a3, a4, u⟩)]; exact tb _
                    · rw [if_neg a4]; exact tb _
                  · rw [if_neg a3]; exact tb _
              · rw [if_neg u5]; exact ybB w _
            · rw [if_neg u4]; exact ybB w _
          · rw [if_neg u3]; exact ybB w _
        · rw [if_neg u2]; exact ybB w _
      · rw [if_neg u1]; exact ybB w _
end
