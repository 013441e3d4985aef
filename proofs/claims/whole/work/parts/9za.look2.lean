section
/-! Looking at a cube: what it leaves -/
def ySm (f : Nat → Int) : Nat → Int
  | 0 => 0
  | i + 1 => ySm f i + f i
def yLk (w : zW) (T : Int → Int) (N s : Int) (n : Nat) : Prop := ∀ (d : Nat) (x y z : Int) (σ : zMem), 2 * n + 24 ≤ d → (0 ≤ x ∧ x + 2 ^ n ≤ 16) → (0 ≤ y ∧ y + 2 ^ n ≤ 16) → (0 ≤ z ∧ z + 2 ^ n ≤ 16) → zTb 2 σ T N → 0 ≤ σ 87 s → σ 87 s + yS n ≤ 10000 →
  ∃ σ', zcall w d 39 [zA 4 5 85, zA 10 8 2, zI s, zI (256 * x + 16 * y + z), zI (2 ^ n)] σ = some (0, σ') ∧ σ' 87 s = σ 87 s + zlkN T s n x y z
    ∧ (∀ q, 0 ≤ q → q < 4096 → (zbit σ' (122 + 2 * s) q = true ↔ zbit σ (122 + 2 * s) q = true ∨ (yic (2 ^ n) x y z q ∧ zns T s q = true)))
    ∧ ∀ c k, (c ≠ 87 ∨ k ≠ s) → c ≠ 122 + 2 * s → ¬ (91 ≤ c ∧ c ≤ 120) → σ' c k = σ c k
/-- which eighth -/
def yei (h x y z q : Int) : Int := (if x + h ≤ q / 256 then 4 else 0) + (if y + h ≤ q / 16 % 16 then 2 else 0) + (if z + h ≤ q % 16 then 1 else 0)
theorem l_40 (w : zW) {T : Int → Int} {N s : Int} (hT : zWF T N) (h0 : 0 ≤ s) (h1 : s < N) {n : Nat} (hn : n ≤ 3) (ih : yLk w T N s n) {d : Nat} (hd : 2 * n + 25 ≤ d + 1) {x y z : Int} (hx : 0 ≤ x ∧ x + 2 * 2 ^ n ≤ 16) (hy : 0 ≤ y ∧ y + 2 * 2 ^ n ≤ 16) (hz : 0 ≤ z ∧ z + 2 * 2 ^ n ≤ 16) :
    ∀ (m i : Nat) (σ : zMem), i + m = 8 → zTb 2 σ T N → 0 ≤ σ 87 s → σ 87 s + m * yS n ≤ 10000 →
    ∃ σ', zden w (d + 1) 40 2 [zA 4 5 85, zA 10 8 2, zI s, zI (256 * x + 16 * y + z), zI (2 ^ n), zI (i : Int)] [] σ = some (0, σ')
      ∧ σ' 87 s + ySm (fun i : Nat => zlkN T s n (x + ((i / 4 : Nat) : Int) * 2 ^ n) (y + ((i / 2 % 2 : Nat) : Int) * 2 ^ n) (z + ((i % 2 : Nat) : Int) * 2 ^ n)) i = σ 87 s + ySm (fun i : Nat => zlkN T s n (x + ((i / 4 : Nat) : Int) * 2 ^ n) (y + ((i / 2 % 2 : Nat) : Int) * 2 ^ n) (z + ((i % 2 : Nat) : Int) * 2 ^ n)) 8
      ∧ (∀ q, 0 ≤ q → q < 4096 → (zbit σ' (122 + 2 * s) q = true ↔ zbit σ (122 + 2 * s) q = true ∨ ((yic (2 * 2 ^ n) x y z q ∧ (i : Int) ≤ yei (2 ^ n) x y z q) ∧ zns T s q = true)))
      ∧ ∀ c k, (c ≠ 87 ∨ k ≠ s) → c ≠ 122 + 2 * s → ¬ (91 ≤ c ∧ c ≤ 120) → σ' c k = σ c k := by
  obtain ⟨p1, p2, -⟩ := y2n (show n ≤ 4 by omega)
  have p3 : (2 : Int) ^ n ≤ 8 := by omega
  intro m
  induction m with
  | zero =>
    intro i σ hi _ _ _
    have : i = 8 := by omega
    subst this
    refine ⟨σ, ?_, rfl, fun q a b => ⟨Or.inl, fun u => ?_⟩, fun _ _ _ _ _ => rfl⟩
    · rw [hX3_lookAtEighths_2, if_neg (by decide)]
    · rcases u with u | u
      · exact u
      · exfalso
        have := u.1.2
        unfold yei at this
        (repeat' split at this) <;> omega
  | succ m im =>
    intro i σ hi hTb hc hb
    have hi8 : i < 8 := by omega
    have eb : ((m + 1 : Nat) : Int) * yS n = m * yS n + yS n := by rw [Int.natCast_succ, Int.add_mul, Int.one_mul]
    rw [eb] at hb
    have bS : 1 ≤ yS n := by have := zlk_b T s n x y z; omega
    have bm : 0 ≤ (m : Int) * yS n := Int.mul_nonneg (by omega) (by omega)
    have ai : zar 0 (i : Int) 1 = ((i + 1 : Nat) : Int) := by rw [za_0, zw32_i (by omega)]; rfl
    have d1 : zar 3 (i : Int) 4 = ((i / 4 : Nat) : Int) := by rw [za_3, zw32_i (by rw [Int.tdiv_eq_ediv_of_nonneg (by omega)]; omega), Int.tdiv_eq_ediv_of_nonneg (by omega)]; rfl
    have d2 : zar 4 (zar 3 (i : Int) 2) 2 = ((i / 2 % 2 : Nat) : Int) := by
      rw [za_3, zw32_i (by rw [Int.tdiv_eq_ediv_of_nonneg (by omega)]; omega), Int.tdiv_eq_ediv_of_nonneg (by omega), za_4, Int.tmod_eq_emod_of_nonneg (by omega)]; rfl
    have d3 : zar 4 (i : Int) 2 = ((i % 2 : Nat) : Int) := by rw [za_4, Int.tmod_eq_emod_of_nonneg (by omega)]; rfl
    have g1 : i / 4 = 0 ∨ i / 4 = 1 := by omega
    have g2 : i / 2 % 2 = 0 ∨ i / 2 % 2 = 1 := by omega
    have g3 : i % 2 = 0 ∨ i % 2 = 1 := by omega
    have gi : i = 4 * (i / 4) + 2 * (i / 2 % 2) + i % 2 := by omega
    rw [hX3_lookAtEighths_2, if_pos (by omega), d1, d2, d3]
    have e8 : ySm (fun i : Nat => zlkN T s n (x + ((i / 4 : Nat) : Int) * 2 ^ n) (y + ((i / 2 % 2 : Nat) : Int) * 2 ^ n) (z + ((i % 2 : Nat) : Int) * 2 ^ n)) (i + 1)
        = ySm (fun i : Nat => zlkN T s n (x + ((i / 4 : Nat) : Int) * 2 ^ n) (y + ((i / 2 % 2 : Nat) : Int) * 2 ^ n) (z + ((i % 2 : Nat) : Int) * 2 ^ n)) i + zlkN T s n (x + ((i / 4 : Nat) : Int) * 2 ^ n) (y + ((i / 2 % 2 : Nat) : Int) * 2 ^ n) (z + ((i % 2 : Nat) : Int) * 2 ^ n) := rfl
    generalize ySm _ i = S0 at *
    generalize hS8 : ySm _ 8 = S8 at *
    generalize hS1 : ySm _ (i + 1) = S1 at *
    have mm : ∀ a : Nat, (a = 0 ∨ a = 1) → zar 2 (a : Int) (2 ^ n) = (a : Int) * 2 ^ n ∧ 0 ≤ (a : Int) * 2 ^ n ∧ (a : Int) * 2 ^ n ≤ 2 ^ n ∧ (a : Int) * 2 ^ n = if a = 0 then 0 else 2 ^ n := by
      intro a ha
      rcases ha with rfl | rfl
      · rw [za_2, show ((0 : Nat) : Int) * 2 ^ n = 0 from Int.zero_mul _, zw32_i (by decide)]; exact ⟨rfl, by omega, by omega, rfl⟩
      · rw [za_2, show ((1 : Nat) : Int) * 2 ^ n = 2 ^ n from Int.one_mul _, zw32_i (by omega)]; exact ⟨rfl, by omega, by omega, rfl⟩
    obtain ⟨m1, m1a, m1b, m1c⟩ := mm (i / 4) g1
    obtain ⟨m2, m2a, m2b, m2c⟩ := mm (i / 2 % 2) g2
    obtain ⟨m3, m3a, m3b, m3c⟩ := mm (i % 2) g3
    rw [m1, m2, m3]
    generalize hX : ((i / 4 : Nat) : Int) * 2 ^ n = X at *
    generalize hY : ((i / 2 % 2 : Nat) : Int) * 2 ^ n = Y at *
    generalize hZ : ((i % 2 : Nat) : Int) * 2 ^ n = Z at *
    generalize hh : (2 : Int) ^ n = h at *
    have ep : zar 0 (256 * x + 16 * y + z) (256 * X + 16 * Y + Z) = 256 * (x + X) + 16 * (y + Y) + (z + Z) := by rw [za_0, zw32_i (by omega)]; omega
    obtain ⟨σ1, k1, k2, k3, k4⟩ := ih d (x + X) (y + Y) (z + Z) σ (by omega) (by rw [hh]; omega) (by rw [hh]; omega) (by rw [hh]; omega) hTb hc (by omega)
    rw [hh] at k1 k3
    have bz := zlk_b T s n (x + X) (y + Y) (z + Z)
    obtain ⟨σ2, j1, j2, j3, j4⟩ := im (i + 1) σ1 (by omega) (zTb_fr (fun c k p q => k4 c k (by omega) (by omega) (by omega)) hTb) (by omega) (by omega)
    rw [s_208 w d (by omega), Option.bind_some]
    dsimp only
    rw [ep, k1, Option.bind_some]
    dsimp only
    rw [ai, j1]
    refine ⟨σ2, rfl, by omega, fun q a b => ?_, fun c k u v t => (j4 c k u v t).trans (k4 c k u v t)⟩
    rw [j3 q a b, k3 q a b]
    have key : (yic (2 * h) x y z q ∧ ((i : Nat) : Int) ≤ yei h x y z q) ↔ (yic h (x + X) (y + Y) (z + Z) q ∨ (yic (2 * h) x y z q ∧ ((i + 1 : Nat) : Int) ≤ yei h x y z q)) := by
      have e : yic h (x + X) (y + Y) (z + Z) q ↔ (yic (2 * h) x y z q ∧ yei h x y z q = (i : Int)) := by
        unfold yic yei
        generalize i / 4 = a1 at *
        generalize i / 2 % 2 = a2 at *
        generalize i % 2 = a3 at *
        generalize q / 256 = q1 at *
        generalize q / 16 % 16 = q2 at *
        generalize q % 16 = q3 at *
        have t1 : x + h ≤ q1 ∨ ¬ x + h ≤ q1 := by omega
        have t2 : y + h ≤ q2 ∨ ¬ y + h ≤ q2 := by omega
        have t3 : z + h ≤ q3 ∨ ¬ z + h ≤ q3 := by omega
        rcases g1 with g1 | g1 <;> rcases g2 with g2 | g2 <;> rcases g3 with g3 | g3 <;> rw [g1] at m1c gi <;> rw [g2] at m2c gi <;> rw [g3] at m3c gi <;> simp only [if_true, if_false, Nat.one_ne_zero] at m1c m2c m3c <;>
          rcases t1 with t1 | t1 <;> rcases t2 with t2 | t2 <;> rcases t3 with t3 | t3 <;> simp only [t1, t2, t3, if_true, if_false] <;> omega
      rw [e]
      constructor
      · rintro ⟨u, v⟩
        by_cases g : yei h x y z q = (i : Int)
        · exact Or.inl ⟨u, g⟩
        · exact Or.inr ⟨u, by omega⟩
      · rintro (⟨u, v⟩ | ⟨u, v⟩)
        · exact ⟨u, by omega⟩
        · exact ⟨u, by omega⟩
    rw [key]
    constructor
    · rintro ((u | u) | u)
      · exact Or.inl u
      · exact Or.inr ⟨Or.inl u.1, u.2⟩
      · exact Or.inr ⟨Or.inr u.1, u.2⟩
    · rintro (u | ⟨u | u, v⟩)
      · exact Or.inl (Or.inl u)
      · exact Or.inl (Or.inr ⟨u, v⟩)
      · exact Or.inr ⟨u, v⟩
theorem s_39 (w : zW) {T : Int → Int} {N s : Int} (hT : zWF T N) (h0 : 0 ≤ s) (h1 : s < N) : ∀ n : Nat, n ≤ 4 → yLk w T N s n := by
  have h24 : s < 24 := by have := hT.2.1; omega
  have gs := (hT.2.2 s h0 h1).2
  obtain ⟨r1, r2⟩ := yr_86 w (s := s) ⟨h0, h24⟩
  intro n
  induction n with
  | zero =>
    intro _ d x y z σ hd hx hy hz hTb hc hb
    obtain ⟨d, rfl⟩ : ∃ e, d = e + 1 := ⟨d - 1, by omega⟩
    have e1 : (2 : Int) ^ 0 = 1 := rfl
    have eS : yS 0 = 1 := rfl
    have ez : zlkN T s 0 x y z = 1 := rfl
    rw [e1] at hx hy hz ⊢
    rw [eS] at hb
    rw [ez]
    have hp : 0 ≤ 256 * x + 16 * y + z ∧ 256 * x + 16 * y + z < 4096 := by omega
    have o1 : zon (256 * x + 16 * y + z) 0 = x := by show (256 * x + 16 * y + z) / 256 = x; omega
    have o2 : zon (256 * x + 16 * y + z) 1 = y := by show (256 * x + 16 * y + z) / 16 % 16 = y; omega
    have o3 : zon (256 * x + 16 * y + z) 2 = z := by show (256 * x + 16 * y + z) % 16 = z; omega
    have ec : zar 0 (σ 87 s) 1 = σ 87 s + 1 := by rw [za_0, zw32_i (by omega)]
    generalize hp0 : 256 * x + 16 * y + z = p at *
    have t0 : zup σ 87 s (σ 87 s + 1) 87 s = σ 87 s + 1 := zup_t ⟨rfl, rfl, by decide⟩
    have f0 : ∀ c k, (c ≠ 87 ∨ k ≠ s) → zup σ 87 s (σ 87 s + 1) c k = σ c k := fun c k h => zup_f h
    obtain ⟨σ1, m1, m2, m3⟩ := s_42 w (d := d) (by omega) (a := 90) (Or.inl rfl) (x := x) (y := y) (z := z) hT h0 h1 (zTb_fr (fun c k p q => f0 c k (by omega)) hTb) (by omega) (by omega) (by omega)
    have en : zns T s p = decide (zwd T 7 s x y z ≤ 0) := by
      unfold zns
      rw [← o1, ← o2, ← o3]; rfl
    rw [eX3_look, if_neg (by omega), if_pos h24, if_neg (by omega), if_pos ⟨h0, h24⟩, if_pos ⟨h0, h24⟩, ec, s_209 w (by omega) hp (by decide), Option.bind_some]
    dsimp only
    rw [s_209 w (by omega) hp (by decide), Option.bind_some]
    dsimp only
    rw [s_209 w (by omega) hp (by decide), Option.bind_some]
    dsimp only
    rw [if_pos rfl, o1, o2, o3, m1, Option.bind_some]
    dsimp only
    rw [s_13 w d m2, Option.bind_some]
    dsimp only
    rw [zt_if]
    have Z1 : ∀ q, zbit σ1 (122 + 2 * s) q = zbit σ (122 + 2 * s) q := fun q => zbit_fr fun k => (m3 _ _ (by omega)).trans (f0 _ _ (by omega))
    by_cases c : 0 < zwd T 7 s x y z
    · rw [if_pos c]
      refine ⟨σ1, rfl, ?_, fun q a b => ?_, fun c k u v t => (m3 _ _ (by omega)).trans (f0 _ _ u)⟩
      · rw [m3 _ _ (by omega), t0]
      · rw [Z1]
        refine ⟨Or.inl, fun u => ?_⟩
        rcases u with u | ⟨u, v⟩
        · exact u
        · exfalso
          have : q = p := by unfold yic at u; omega
          rw [this, en, decide_eq_true_eq] at v
          omega
    · rw [if_neg c, if_pos ⟨h0, h24⟩, r1, s_50 w (by omega) _ hp, Option.bind_some, r2]
      refine ⟨yset (122 + 2 * s) p σ1, rfl, ?_, fun q a b => ?_, fun c k u v t => ?_⟩
      · rw [yset_f (Or.inl (by omega)), m3 _ _ (by omega), t0]
      · rw [zbit_set (by omega) hp.1 a, Z1, Bool.or_eq_true, decide_eq_true_eq]
        constructor
        · rintro (u | u)
          · exact Or.inl u
          · refine Or.inr ⟨by unfold yic; omega, ?_⟩
            rw [u, en, decide_eq_true_eq]; omega
        · rintro (u | ⟨u, v⟩)
          · exact Or.inl u
          · exact Or.inr (by unfold yic at u; omega)
      · rw [yset_f (Or.inl v), m3 _ _ (by omega), f0 _ _ u]
  | succ n ih =>
    intro hn d x y z σ hd hx hy hz hTb hc hb
    have ih := ih (by omega)
    obtain ⟨d, rfl⟩ : ∃ e, d = e + 1 + 1 := ⟨d - 2, by omega⟩
    obtain ⟨p1, p2, p4⟩ := y2n (show n ≤ 4 by omega)
    have p5 := (y2n hn).2.1
    have eS : yS (n + 1) = 1 + 8 * yS n := rfl
    have eL : zlkN T s (n + 1) x y z = if 0 < (zbd T 7 s (zcube x y z (2 ^ (n + 1)))).2 ∧ (zbd T 7 s (zcube x y z (2 ^ (n + 1)))).1 ≤ 0 then 1 + ySm (fun i : Nat => zlkN T s n (x + ((i / 4 : Nat) : Int) * 2 ^ n) (y + ((i / 2 % 2 : Nat) : Int) * 2 ^ n) (z + ((i % 2 : Nat) : Int) * 2 ^ n)) 8 else 1 := by
      rw [zlkN]
      have z0 : ((0 : Nat) : Int) * 2 ^ n = 0 := Int.zero_mul _
      have z1 : ((1 : Nat) : Int) * 2 ^ n = 2 ^ n := Int.one_mul _
      simp only [ySm, show 0 / 4 = 0 from rfl, show 1 / 4 = 0 from rfl, show 2 / 4 = 0 from rfl, show 3 / 4 = 0 from rfl, show 4 / 4 = 1 from rfl, show 5 / 4 = 1 from rfl, show 6 / 4 = 1 from rfl, show 7 / 4 = 1 from rfl,
        show 0 / 2 % 2 = 0 from rfl, show 1 / 2 % 2 = 0 from rfl, show 2 / 2 % 2 = 1 from rfl, show 3 / 2 % 2 = 1 from rfl, show 4 / 2 % 2 = 0 from rfl, show 5 / 2 % 2 = 0 from rfl, show 6 / 2 % 2 = 1 from rfl, show 7 / 2 % 2 = 1 from rfl,
        show 0 % 2 = 0 from rfl, show 1 % 2 = 1 from rfl, show 2 % 2 = 0 from rfl, show 3 % 2 = 1 from rfl, show 4 % 2 = 0 from rfl, show 5 % 2 = 1 from rfl, show 6 % 2 = 0 from rfl, show 7 % 2 = 1 from rfl, z0, z1, Int.add_zero]
      split <;> omega
    have bS : 1 ≤ yS n := by have := zlk_b T s n x y z; omega
    rw [eS] at hb
    have hp : 0 ≤ 256 * x + 16 * y + z ∧ 256 * x + 16 * y + z < 4096 := by omega
    have o1 : zon (256 * x + 16 * y + z) 0 = x := by show (256 * x + 16 * y + z) / 256 = x; omega
    have o2 : zon (256 * x + 16 * y + z) 1 = y := by show (256 * x + 16 * y + z) / 16 % 16 = y; omega
    have o3 : zon (256 * x + 16 * y + z) 2 = z := by show (256 * x + 16 * y + z) % 16 = z; omega
    have ec : zar 0 (σ 87 s) 1 = σ 87 s + 1 := by rw [za_0, zw32_i (by omega)]
    have t0 : zup σ 87 s (σ 87 s + 1) 87 s = σ 87 s + 1 := zup_t ⟨rfl, rfl, by decide⟩
    have f0 : ∀ c k, (c ≠ 87 ∨ k ≠ s) → zup σ 87 s (σ 87 s + 1) c k = σ c k := fun c k h => zup_f h
    generalize hσ0 : zup σ 87 s (σ 87 s + 1) = σ0 at *
    obtain ⟨σ1, σ2, m1, m2, m3, m4⟩ := s_93 w (d + 1) (a := 101) (x := x) (y := y) (z := z) (u := x + 2 ^ (n + 1) - 1) (v := y + 2 ^ (n + 1) - 1) (t := z + 2 ^ (n + 1) - 1) (Or.inl rfl) σ0
    have hb' : yrb 99 (zcube x y z (2 ^ (n + 1))) := by unfold yrb zcube; dsimp only; omega
    obtain ⟨σ3, m5, m6, m7⟩ := s_97 w (d := d + 1) (by omega) (a := 101) (Or.inl rfl) (s := s) hT h0 h1 (zTb_fr (fun c k p q => (m4 c k (by omega)).trans (f0 c k (by omega))) hTb) m3 hb'
    have F3 : ∀ c k, (c ≠ 87 ∨ k ≠ s) → c ≠ 122 + 2 * s → ¬ (91 ≤ c ∧ c ≤ 120) → σ3 c k = σ c k := fun c k u v t => (m7 c k (by omega)).trans ((m4 c k (by omega)).trans (f0 c k u))
    have Z3 : ∀ q, zbit σ3 (122 + 2 * s) q = zbit σ (122 + 2 * s) q := fun q => zbit_fr fun k => (m7 _ _ (by omega)).trans ((m4 _ _ (by omega)).trans (f0 _ _ (by omega)))
    have C3 : σ3 87 s = σ 87 s + 1 := by rw [m7 _ _ (by omega), m4 _ _ (by omega), t0]
    have pw : (2 : Int) ^ (n + 1) ≠ 1 := by omega
    have w1 : ∀ u : Int, 0 ≤ u → u ≤ 16 → zar 1 (zar 0 u (2 ^ (n + 1))) 1 = u + 2 ^ (n + 1) - 1 := fun u a b => by rw [za_0, zw32_i (by omega), za_1, zw32_i (by omega)]
    have eh : zR w (zR w 101 2) 0 = 101 + 5 + 2 * 0 := rfl
    have el : zR w (zR w 101 1) 0 = 101 + 4 + 2 * 0 := rfl
    have hcu : zcube x y z (2 ^ (n + 1)) = ((x, x + 2 ^ (n + 1) - 1), (y, y + 2 ^ (n + 1) - 1), (z, z + 2 ^ (n + 1) - 1)) := rfl
    rw [← hcu] at m3 m6
    rw [eX3_look, if_neg (by omega), if_pos h24, if_neg (by omega), if_pos ⟨h0, h24⟩, if_pos ⟨h0, h24⟩, ec, hσ0, s_209 w (by omega) hp (by decide), Option.bind_some]
    dsimp only
    rw [s_209 w (by omega) hp (by decide), Option.bind_some]
    dsimp only
    rw [s_209 w (by omega) hp (by decide), Option.bind_some]
    dsimp only
    rw [if_neg pw, o1, o2, o3, m1, Option.bind_some]
    dsimp only
    rw [w1 x (by omega) (by omega), w1 y (by omega) (by omega), w1 z (by omega) (by omega), m2, Option.bind_some]
    dsimp only
    rw [m5, Option.bind_some]
    dsimp only
    rw [eX8_highest, Option.bind_some]
    dsimp only
    rw [eh, s_13 w (d + 1) m6.2, Option.bind_some]
    dsimp only
    rw [zt_if]
    rw [eL]
    by_cases c1 : 0 < (zbd T 7 s (zcube x y z (2 ^ (n + 1)))).2
    · rw [if_pos c1, eX8_lowest, Option.bind_some]
      dsimp only
      rw [el, s_13 w (d + 1) m6.1, Option.bind_some]
      dsimp only
      rw [zt_if]
      by_cases c2 : 0 < (zbd T 7 s (zcube x y z (2 ^ (n + 1)))).1
      · rw [if_pos c2, if_neg (show ¬ (0 < (zbd T 7 s (zcube x y z (2 ^ (n + 1)))).2 ∧ (zbd T 7 s (zcube x y z (2 ^ (n + 1)))).1 ≤ 0) by omega)]
        refine ⟨σ3, rfl, C3, fun q a b => ?_, F3⟩
        rw [Z3]
        refine ⟨Or.inl, fun u => ?_⟩
        rcases u with u | ⟨u, v⟩
        · exact u
        · exact absurd v (yzns_hi hT h0 h1 u c2)
      · have e2 : zar 3 (2 ^ (n + 1)) 2 = 2 ^ n := by
          rw [za_3, zw32_i (by rw [Int.tdiv_eq_ediv_of_nonneg (by omega)]; omega), Int.tdiv_eq_ediv_of_nonneg (by omega)]; omega
        obtain ⟨σ4, k1, k2, k3, k4⟩ := l_40 w hT h0 h1 (n := n) (by omega) ih (d := d) (by omega) (x := x) (y := y) (z := z) (by omega) (by omega) (by omega) 8 0 σ3 rfl (zTb_fr (fun c k p q => F3 c k (by omega) (by omega) (by omega)) hTb) (by omega) (by omega)
        rw [if_neg c2, if_pos (show 0 < (zbd T 7 s (zcube x y z (2 ^ (n + 1)))).2 ∧ (zbd T 7 s (zcube x y z (2 ^ (n + 1)))).1 ≤ 0 by omega), e2, eX3_lookAtEighths]
        refine ⟨σ4, ?_, ?_, fun q a b => ?_, fun c k u v t => (k4 c k u v t).trans (F3 c k u v t)⟩
        · refine (congrArg (fun t => Option.bind t _) k1).trans ?_
          rfl
        · generalize ySm _ 8 = S8 at *
          have : ySm (fun i : Nat => zlkN T s n (x + ((i / 4 : Nat) : Int) * 2 ^ n) (y + ((i / 2 % 2 : Nat) : Int) * 2 ^ n) (z + ((i % 2 : Nat) : Int) * 2 ^ n)) 0 = 0 := rfl
          omega
        · rw [k3 q a b, Z3, p4]
          have : (0 : Int) ≤ yei (2 ^ n) x y z q := by
            unfold yei
            (repeat' split) <;> omega
          constructor
          · rintro (u | u)
            · exact Or.inl u
            · exact Or.inr ⟨u.1.1, u.2⟩
          · rintro (u | u)
            · exact Or.inl u
            · exact Or.inr ⟨⟨u.1, this⟩, u.2⟩
    · obtain ⟨σ4, k1, k2, k3⟩ := s_51 w (d := d + 1) (by omega) (o := 122 + 2 * s) (a := 121 + 2 * s) (x := x) (y := y) (z := z) (m := 2 ^ (n + 1)) r2 (by omega) (by omega) (by omega) (by omega) (by omega) σ3
      rw [if_neg c1, if_neg (show ¬ (0 < (zbd T 7 s (zcube x y z (2 ^ (n + 1)))).2 ∧ (zbd T 7 s (zcube x y z (2 ^ (n + 1)))).1 ≤ 0) by omega), if_pos ⟨h0, h24⟩, r1, k1]
      refine ⟨σ4, rfl, ?_, fun q a b => ?_, fun c k u v t => (k2 c k v).trans (F3 c k u v t)⟩
      · rw [k2 _ _ (by omega), C3]
      · rw [k3 q a b, Z3]
        constructor
        · rintro (u | u)
          · exact Or.inl u
          · exact Or.inr ⟨u, yzns_lo hT h0 h1 u (by omega)⟩
        · rintro (u | u)
          · exact Or.inl u
          · exact Or.inr u.1
end
