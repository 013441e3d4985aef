section
/-! Calls 25, 26: slice, reach; 37, 41: carve, off -/
def yb1 (b : Bool) : Int := if b = true then 1 else 0
theorem yb1_b (b : Bool) : 0 ≤ yb1 b ∧ yb1 b ≤ 1 := by unfold yb1; split <;> decide
theorem ySm_le {f : Nat → Int} {c : Int} (h : ∀ i, 0 ≤ f i ∧ f i ≤ c) : ∀ n : Nat, 0 ≤ ySm f n ∧ ySm f n ≤ c * n := by
  intro n
  induction n with
  | zero => exact ⟨Int.le_refl _, by show (0 : Int) ≤ c * ((0 : Nat) : Int); rw [show c * ((0 : Nat) : Int) = 0 from Int.mul_zero _]; exact Int.le_refl _⟩
  | succ n ih =>
    have := h n
    have e : ySm f (n + 1) = ySm f n + f n := rfl
    have e2 : c * ((n + 1 : Nat) : Int) = c * n + c := by rw [Int.natCast_succ, Int.mul_add, Int.mul_one]
    omega
theorem ySm_c {f g : Nat → Int} : ∀ n : Nat, (∀ i, i < n → f i = g i) → ySm f n = ySm g n := by
  intro n
  induction n with
  | zero => intro _; rfl
  | succ n ih => intro h; show ySm f n + f n = ySm g n + g n; rw [ih (fun i hi => h i (by omega)), h n (by omega)]
theorem yct_sm (g : Int → Bool) : ∀ n : Nat, (yct g n : Int) = ySm (fun i => yb1 (g i)) n := by
  intro n
  induction n with
  | zero => rfl
  | succ n ih =>
    rw [yct_s]
    show _ = ySm (fun i => yb1 (g i)) n + yb1 (g n)
    rw [← ih]
    unfold yb1
    split <;> omega
theorem ySm_a (f : Nat → Int) (a : Nat) : ∀ n : Nat, ySm f (a + n) = ySm f a + ySm (fun j => f (a + j)) n := by
  intro n
  induction n with
  | zero => show ySm f a = ySm f a + 0; omega
  | succ n ih => show ySm f (a + n) + f (a + n) = ySm f a + (ySm (fun j => f (a + j)) n + f (a + n)); rw [ih]; omega
theorem ySm_bl (f : Nat → Int) (a : Nat) : ∀ n : Nat, ySm f (a * n) = ySm (fun i => ySm (fun j => f (a * i + j)) a) n := by
  intro n
  induction n with
  | zero => rfl
  | succ n ih => rw [Nat.mul_succ, ySm_a, ih]; rfl
theorem ySm_z (n : Nat) : ySm (fun _ => 0) n = 0 := by
  induction n with
  | zero => rfl
  | succ n ih => show ySm (fun _ => 0) n + 0 = 0; rw [ih]; rfl
theorem ySm_1 {F : Nat → Int} {t : Nat} : ∀ n : Nat, ySm (fun i => if i = t then F i else 0) n = if t < n then F t else 0 := by
  intro n
  induction n with
  | zero => rfl
  | succ n ih =>
    show ySm (fun i => if i = t then F i else 0) n + (if n = t then F n else 0) = _
    rw [ih]
    by_cases c : n = t
    · subst c; rw [if_neg (by omega), if_pos rfl, if_pos (by omega)]; omega
    · rw [if_neg c]
      by_cases c2 : t < n
      · rw [if_pos c2, if_pos (by omega)]; omega
      · rw [if_neg c2, if_neg (by omega)]; rfl
/-- the place at i, j of a slice -/
def ypl (ax t i j : Int) : Int := if ax = 0 then 256 * t + 16 * i + j else if ax = 1 then 256 * i + 16 * t + j else 256 * i + 16 * j + t
def ysl (g : Int → Bool) (ax t : Int) (p : Int) : Bool := decide (zon p ax = t) && g p
theorem ysl_n {g : Int → Bool} {ax : Int} {t : Nat} (ha : 0 ≤ ax ∧ ax ≤ 2) (ht : t < 16) : (yct (ysl g ax t) 4096 : Int) = ySm (fun i => ySm (fun j => yb1 (g (ypl ax t i j))) 16) 16 := by
  have e1 : (yct (ysl g ax t) 4096 : Int) = ySm (fun x => ySm (fun y => ySm (fun z => yb1 (ysl g ax t ((16 * (16 * x + y) + z : Nat) : Int))) 16) 16) 16 := by
    rw [yct_sm, show 4096 = 16 * 256 by rfl, ySm_bl, show 256 = 16 * 16 by rfl, ySm_bl]
  rw [e1]
  have o : ∀ x y z : Nat, x < 16 → y < 16 → z < 16 → ysl g ax t ((16 * (16 * x + y) + z : Nat) : Int) = (decide ((if ax = 0 then x else if ax = 1 then y else z) = t) && g (256 * (x : Int) + 16 * (y : Int) + (z : Int))) := by
    intro x y z hx hy hz
    have ep : ((16 * (16 * x + y) + z : Nat) : Int) = 256 * (x : Int) + 16 * (y : Int) + (z : Int) := by omega
    unfold ysl
    rw [ep]
    congr 1
    apply decide_eq_decide.mpr
    unfold zon zpick
    by_cases c0 : ax = 0
    · rw [if_pos c0, if_pos c0]; omega
    · rw [if_neg c0, if_neg c0]
      by_cases c1 : ax = 1
      · rw [if_pos c1, if_pos c1]; omega
      · rw [if_neg c1, if_neg c1]; omega
  by_cases c0 : ax = 0
  · subst c0
    rw [ySm_c (g := fun x => if x = t then ySm (fun y => ySm (fun z => yb1 (g (256 * (x : Int) + 16 * (y : Int) + (z : Int)))) 16) 16 else 0) 16 (fun x hx => ?_), ySm_1, if_pos ht]
    · rfl
    · by_cases c : x = t
      · rw [if_pos c]
        exact ySm_c 16 fun y hy => ySm_c 16 fun z hz => by rw [o x y z hx hy hz, if_pos rfl, decide_eq_true c, Bool.true_and]
      · rw [if_neg c]
        have : ∀ y, y < 16 → ySm (fun z => yb1 (ysl g 0 t ((16 * (16 * x + y) + z : Nat) : Int))) 16 = 0 := fun y hy => (ySm_c (g := fun _ => 0) 16 fun z hz => by rw [o x y z hx hy hz, if_pos rfl, decide_eq_false c, Bool.false_and]; rfl).trans (ySm_z 16)
        exact (ySm_c (g := fun _ => 0) 16 this).trans (ySm_z 16)
  · by_cases c1 : ax = 1
    · subst c1
      refine ySm_c 16 fun x hx => ?_
      rw [ySm_c (g := fun y => if y = t then ySm (fun z => yb1 (g (256 * (x : Int) + 16 * (y : Int) + (z : Int)))) 16 else 0) 16 (fun y hy => ?_), ySm_1, if_pos ht]
      · rfl
      · by_cases c : y = t
        · rw [if_pos c]
          exact ySm_c 16 fun z hz => by rw [o x y z hx hy hz, if_neg (by decide), if_pos rfl, decide_eq_true c, Bool.true_and]
        · rw [if_neg c]
          exact (ySm_c (g := fun _ => 0) 16 fun z hz => by rw [o x y z hx hy hz, if_neg (by decide), if_pos rfl, decide_eq_false c, Bool.false_and]; rfl).trans (ySm_z 16)
    · have : ax = 2 := by omega
      subst this
      refine ySm_c 16 fun x hx => ySm_c 16 fun y hy => ?_
      rw [ySm_c (g := fun z => if z = t then yb1 (g (256 * (x : Int) + 16 * (y : Int) + (z : Int))) else 0) 16 (fun z hz => ?_), ySm_1, if_pos ht]
      · rfl
      · by_cases c : z = t
        · rw [if_pos c, o x y z hx hy hz, if_neg (by decide), if_neg (by decide), decide_eq_true c, Bool.true_and]
        · rw [if_neg c, o x y z hx hy hz, if_neg (by decide), if_neg (by decide), decide_eq_false c, Bool.false_and]; rfl
theorem l_60 (w : zW) {d : Nat} (hd : 1 ≤ d) {a o ax : Int} {t : Nat} {g : Int → Bool} {σ : zMem} (ro : zR w a 0 = o) (P : zPS σ o g) (ha : 0 ≤ ax ∧ ax ≤ 2) (ht : t < 16) {i : Nat} (hi : i < 16) (n0 : Int) (hn0 : 0 ≤ n0 ∧ n0 ≤ 256) : ∀ (m j : Nat) (v6 : zV), j + m = 16 →
    ∃ v5' v6', zden w (d + 1) 60 9 [zA 6 1 a, zI ax, zI (t : Int), zI (n0 + ySm (fun j => yb1 (g (ypl ax t i j))) j), zI (i : Int), zI (j : Int), v6] [] σ = zden w (d + 1) 60 4 [zA 6 1 a, zI ax, zI (t : Int), zI (n0 + ySm (fun j => yb1 (g (ypl ax t i j))) 16), zI ((i + 1 : Nat) : Int), v5', v6'] [] σ := by
  intro m
  induction m with
  | zero =>
    intro j v6 h
    have : j = 16 := by omega
    subst this
    rw [hX5_sizeAt_9, if_neg (by decide), za_0, zw32_i (by omega)]
    exact ⟨_, _, rfl⟩
  | succ m ih =>
    intro j v6 h
    have sb := ySm_le (f := fun j => yb1 (g (ypl ax t i j))) (c := 1) (fun i => yb1_b _) j
    have e1 : zar 0 (j : Int) 1 = ((j + 1 : Nat) : Int) := by rw [za_0, zw32_i (by omega)]; rfl
    have hp : 0 ≤ ypl ax t i j ∧ ypl ax t i j < 4096 := by
      unfold ypl
      (repeat' split) <;> omega
    have st : ∀ v : zV, (if zt ((0 ≤ ypl ax t i j ∧ ypl ax t i j < 4096) ∧ zbit σ o (ypl ax t i j) = true) = 0 then zden w (d + 1) 60 9 [zA 6 1 a, zI ax, zI (t : Int), zI (zar 0 (n0 + ySm (fun j => yb1 (g (ypl ax t i j))) j) 0), zI (i : Int), zI ((j + 1 : Nat) : Int), v] [] σ
        else zden w (d + 1) 60 9 [zA 6 1 a, zI ax, zI (t : Int), zI (zar 0 (n0 + ySm (fun j => yb1 (g (ypl ax t i j))) j) 1), zI (i : Int), zI ((j + 1 : Nat) : Int), v] [] σ)
        = zden w (d + 1) 60 9 [zA 6 1 a, zI ax, zI (t : Int), zI (n0 + ySm (fun j => yb1 (g (ypl ax t i j))) (j + 1)), zI (i : Int), zI ((j + 1 : Nat) : Int), v] [] σ := by
      intro v
      have es : ySm (fun j => yb1 (g (ypl ax t i j))) (j + 1) = ySm (fun j => yb1 (g (ypl ax t i j))) j + yb1 (g (ypl ax t i j)) := rfl
      rw [zt_if, P _ hp.1 hp.2, es, za_0, za_0]
      unfold yb1 at sb ⊢
      by_cases c : g (ypl ax t i j) = true
      · rw [if_pos ⟨hp, c⟩, if_pos c, zw32_i (by omega), Int.add_assoc]
      · rw [if_neg (fun u => c u.2), if_neg c, zw32_i (by omega), Int.add_assoc]
    rw [hX5_sizeAt_9, if_pos (by omega), e1]
    by_cases c0 : ax = 0
    · have ep : 256 * (t : Int) + 16 * (i : Int) + (j : Int) = ypl ax t i j := by rw [ypl, if_pos c0]
      rw [if_pos c0, s_208 w d (by omega), Option.bind_some]
      dsimp only
      rw [ep, s_49 w hd, ro, Option.bind_some]
      dsimp only
      rw [st]
      exact ih (j + 1) _ (by omega)
    · rw [if_neg c0]
      by_cases c1 : ax = 1
      · have ep : 256 * (i : Int) + 16 * (t : Int) + (j : Int) = ypl ax t i j := by rw [ypl, if_neg c0, if_pos c1]
        rw [if_pos c1, s_208 w d (by omega), Option.bind_some]
        dsimp only
        rw [ep, s_49 w hd, ro, Option.bind_some]
        dsimp only
        rw [st]
        exact ih (j + 1) _ (by omega)
      · have ep : 256 * (i : Int) + 16 * (j : Int) + (t : Int) = ypl ax t i j := by rw [ypl, if_neg c0, if_neg c1]
        rw [if_neg c1, s_208 w d (by omega), Option.bind_some]
        dsimp only
        rw [ep, s_49 w hd, ro, Option.bind_some]
        dsimp only
        rw [st]
        exact ih (j + 1) _ (by omega)
theorem l_60a (w : zW) {d : Nat} (hd : 1 ≤ d) {a o ax : Int} {t : Nat} {g : Int → Bool} {σ : zMem} (ro : zR w a 0 = o) (P : zPS σ o g) (ha : 0 ≤ ax ∧ ax ≤ 2) (ht : t < 16) : ∀ (m i : Nat) (v5 v6 : zV), i + m = 16 →
    zden w (d + 1) 60 4 [zA 6 1 a, zI ax, zI (t : Int), zI (ySm (fun i => ySm (fun j => yb1 (g (ypl ax t i j))) 16) i), zI (i : Int), v5, v6] [] σ = some (ySm (fun i => ySm (fun j => yb1 (g (ypl ax t i j))) 16) 16, σ) := by
  intro m
  induction m with
  | zero =>
    intro i v5 v6 h
    have : i = 16 := by omega
    subst this
    rw [hX5_sizeAt_4, if_neg (by decide)]
  | succ m ih =>
    intro i v5 v6 h
    have sb := ySm_le (f := fun i => ySm (fun j => yb1 (g (ypl ax t i j))) 16) (c := 16) (fun i => by have := ySm_le (f := fun j => yb1 (g (ypl ax t i j))) (c := 1) (fun i => yb1_b _) 16; exact ⟨this.1, by omega⟩) i
    rw [hX5_sizeAt_4, if_pos (by omega)]
    obtain ⟨u5, u6, e⟩ := l_60 w hd ro P ha ht (i := i) (by omega) (ySm (fun i => ySm (fun j => yb1 (g (ypl ax t i j))) 16) i) (by omega) 16 0 v6 (by omega)
    have z0 : ySm (fun j => yb1 (g (ypl ax t i j))) 0 = 0 := rfl
    rw [z0, Int.add_zero] at e
    exact e.trans (ih (i + 1) u5 u6 (by omega))
theorem s_60 (w : zW) {d : Nat} (hd : 2 ≤ d) {a o ax t : Int} {g : Int → Bool} {σ : zMem} (ro : zR w a 0 = o) (P : zPS σ o g) (ha : 0 ≤ ax ∧ ax ≤ 2) (ht : 0 ≤ t ∧ t < 16) : zcall w d 60 [zA 6 1 a, zI ax, zI t] σ = some ((yct (ysl g ax t) 4096 : Int), σ) := by
  obtain ⟨d, rfl⟩ : ∃ e, d = e + 1 := ⟨d - 1, by omega⟩
  obtain ⟨t, rfl⟩ : ∃ n : Nat, t = n := ⟨t.toNat, by omega⟩
  rw [eX5_sizeAt, ysl_n ha (by omega)]
  exact l_60a w (by omega) ro P ha (by omega) 16 0 zU zU (by omega)
theorem l_255 (w : zW) {d : Nat} (hd : 20 ≤ d) {s n ax t : Int} {σ : zMem} (hT : zWF (σ 210) n) (h0 : 0 ≤ s) (h1 : s < n) : ∀ (m k : Nat), k + m = 4096 →
    zden w (d + 1) 255 24 [zA 13 32 209, zI s, zI ax, zI t, zI (yct (ysl (zns (σ 210) s) ax t) k : Nat), zI (k : Int)] [] σ = some (((yct (ysl (zns (σ 210) s) ax t) 4096 : Nat) : Int), σ) := by
  intro m
  induction m with
  | zero =>
    intro k h
    have : k = 4096 := by omega
    subst this
    rw [hX12_slice_24, if_neg (by omega)]
  | succ m ih =>
    intro k h
    have b := yct_le (ysl (zns (σ 210) s) ax t) k
    have e1 : zar 0 (k : Int) 1 = ((k + 1 : Nat) : Int) := by rw [za_0, zw32_i (by omega)]; omega
    have i2 := ih (k + 1) (by omega)
    rw [yct_s] at i2
    have kr : (0 : Int) ≤ (k : Int) ∧ (k : Int) < 4096 := by omega
    rw [hX12_slice_24, if_pos kr.2, s_254 w (by omega) kr, Option.bind_some]
    dsimp only
    rw [e1, za_0, za_0]
    by_cases c : zon k ax = t
    · rw [if_pos c, s_248 w hd hT h0 h1 kr, Option.bind_some]
      dsimp only
      rw [zt_if]
      by_cases c2 : zns (σ 210) s k = true
      · have e : ysl (zns (σ 210) s) ax t k = true := by unfold ysl; rw [decide_eq_true c, c2]; rfl
        rw [if_pos c2, zw32_i (z := (yct (ysl (zns (σ 210) s) ax t) k : Int) + 1) (by omega)]
        rw [if_pos e] at i2
        exact i2
      · have e : ¬ ysl (zns (σ 210) s) ax t k = true := by unfold ysl; rw [Bool.and_eq_true]; exact fun u => c2 u.2
        rw [if_neg c2, zw32_i (z := (yct (ysl (zns (σ 210) s) ax t) k : Int) + 0) (by omega)]
        rw [if_neg e] at i2
        exact i2
    · have e : ¬ ysl (zns (σ 210) s) ax t k = true := by unfold ysl; rw [Bool.and_eq_true, decide_eq_true_eq]; exact fun u => c u.1
      rw [if_neg c, zw32_i (z := (yct (ysl (zns (σ 210) s) ax t) k : Int) + 0) (by omega)]
      rw [if_neg e] at i2
      exact i2
theorem op_25 (w : zW) (x1 x2 x3 : Int) : zOp zInv w 168 255 [zI x1, zI x2, zI x3] := by
  intro σ hI
  by_cases h : (0 ≤ x1 ∧ x1 < σ 209 1) ∧ (0 ≤ x2 ∧ x2 ≤ 2) ∧ (0 ≤ x3 ∧ x3 ≤ 15)
  · obtain ⟨h1, h2, h3⟩ := h
    have h24 := hI.2.1.1.2.1
    have r2 := (yr_86 w (s := x1) ⟨h1.1, by omega⟩).2
    obtain ⟨σ1, m, P, I1, E, n1, -⟩ := s_198 w (d := 998) (by decide) hI h1.1 h1.2
    have e2 := l_255 w (d := 998) (by decide) (s := x1) (ax := x2) (t := x3) (σ := σ1) I1.2.1.1 h1.1 (by omega) 4096 0 (by omega)
    rw [E] at e2
    refine yps w (yct (ysl (zns (σ 210) x1) x2 x3) 4096 : Int) (σ2 := σ1) I1 ((eX11_slice w 998 x1 x2 x3 σ).trans ?_) ((eX12_slice w 998 x1 x2 x3 σ1).trans ?_) (zalk_r _)
    · rw [yA1 w hI, Option.bind_some]
      dsimp only
      rw [zt_if, if_pos (by omega)]
      rw [s_203, Option.bind_some]
      dsimp only
      rw [zt_if, if_pos (by omega)]
      rw [s_200, Option.bind_some]
      dsimp only
      rw [zt_if, if_pos (by omega)]
      rw [m, Option.bind_some]
      dsimp only
      rw [s_60 w (by decide) r2 P h2 (by omega)]
      rfl
    · rw [yB1 w I1, Option.bind_some]
      dsimp only
      rw [zt_if, if_pos (by omega)]
      rw [s_213, Option.bind_some]
      dsimp only
      rw [zt_if, if_pos (by omega)]
      rw [s_213, Option.bind_some]
      dsimp only
      rw [zt_if, if_pos (by omega)]
      exact e2
  · refine yop (-62) (zrA σ (-62)) (zrB (zrA σ (-62)) (-62)) ((eX11_slice w 998 x1 x2 x3 σ).trans ?_) ((eX12_slice w 998 x1 x2 x3 _).trans ?_) (zref0 hI)
    · rw [yA1 w hI, Option.bind_some]
      dsimp only
      rw [zt_if]
      by_cases u0 : 0 ≤ x1 ∧ x1 < σ 209 1
      · rw [if_pos (by omega)]
        rw [s_203, Option.bind_some]
        dsimp only
        rw [zt_if]
        by_cases u1 : 0 ≤ x2 ∧ x2 ≤ 2
        · rw [if_pos (by omega)]
          rw [s_200, Option.bind_some]
          dsimp only
          rw [zt_if]
          rw [if_neg (fun u => h ⟨u0, u1, (by omega)⟩)]
          exact ybA w σ
        · rw [if_neg (by omega)]; exact ybA w σ
      · rw [if_neg (by omega)]; exact ybA w σ
    · rw [yB1' w hI, Option.bind_some]
      dsimp only
      rw [zt_if]
      by_cases u0 : 0 ≤ x1 ∧ x1 < σ 209 1
      · rw [if_pos (by omega)]
        rw [s_213, Option.bind_some]
        dsimp only
        rw [zt_if]
        by_cases u1 : 0 ≤ x2 ∧ x2 ≤ 2
        · rw [if_pos (by omega)]
          rw [s_213, Option.bind_some]
          dsimp only
          rw [zt_if]
          rw [if_neg (fun u => h ⟨u0, u1, (by omega)⟩)]
          exact ybB w _
        · rw [if_neg (by omega)]; exact ybB w _
      · rw [if_neg (by omega)]; exact ybB w _
theorem yct_pos {g : Int → Bool} : ∀ n : Nat, 0 < yct g n ↔ ∃ p : Int, 0 ≤ p ∧ p < n ∧ g p = true := by
  intro n
  induction n with
  | zero => exact ⟨fun u => absurd u (Nat.lt_irrefl 0), fun ⟨p, a, b, _⟩ => by omega⟩
  | succ n ih =>
    rw [yct_s]
    constructor
    · intro u
      by_cases c : g n = true
      · exact ⟨n, by omega, by omega, c⟩
      · rw [if_neg c] at u
        obtain ⟨p, a, b, e⟩ := ih.1 u
        exact ⟨p, a, by omega, e⟩
    · rintro ⟨p, a, b, e⟩
      by_cases c : p = n
      · rw [c] at e; rw [if_pos e]; omega
      · have := ih.2 ⟨p, a, by omega, e⟩
        omega
/-- r is how far g reaches: what 0 the least, 1 the greatest on an axis; -1: there is none -/
def yrc (g : Int → Bool) (ax wh r : Int) : Prop := (r = -1 ∧ ∀ p : Int, 0 ≤ p → p < 4096 → ¬ g p = true) ∨ ((∃ p : Int, 0 ≤ p ∧ p < 4096 ∧ g p = true ∧ zon p ax = r) ∧ ∀ p : Int, 0 ≤ p → p < 4096 → g p = true → if wh = 0 then r ≤ zon p ax else zon p ax ≤ r)
theorem zon_b {p ax : Int} (h : 0 ≤ p ∧ p < 4096) : 0 ≤ zon p ax ∧ zon p ax < 16 := by
  unfold zon zpick
  (repeat' split) <;> omega
theorem yrc_u {g : Int → Bool} {ax wh r s : Int} (h : yrc g ax wh r) (k : yrc g ax wh s) : r = s := by
  rcases h with ⟨h1, h2⟩ | ⟨⟨p, p0, p1, p2, p3⟩, h2⟩
  · rcases k with ⟨k1, k2⟩ | ⟨⟨q, q0, q1, q2, q3⟩, k2⟩
    · omega
    · exact absurd q2 (h2 q q0 q1)
  · rcases k with ⟨k1, k2⟩ | ⟨⟨q, q0, q1, q2, q3⟩, k2⟩
    · exact absurd p2 (k2 p p0 p1)
    · have a := h2 q q0 q1 q2
      have b := k2 p p0 p1 p2
      by_cases c : wh = 0
      · rw [if_pos c] at a b; omega
      · rw [if_neg c] at a b; omega
theorem l_169 (w : zW) {d : Nat} (hd : 2 ≤ d) {a o ax wh : Int} {g : Int → Bool} {σ : zMem} {v0 v1 : zV} (ro : zR w a 0 = o) (P : zPS σ o g) (ha : 0 ≤ ax ∧ ax ≤ 2) : ∀ (m : Nat) (i : Int) (v6 : zV), 0 ≤ i → i + m = 16 →
    (∀ p : Int, 0 ≤ p → p < 4096 → g p = true → if wh = 0 then i ≤ zon p ax else zon p ax ≤ 15 - i) →
    ∃ r, zden w (d + 1) 169 22 [v0, v1, zI ax, zI wh, zA 6 1 a, zI i, v6] [] σ = some (r, σ) ∧ yrc g ax wh r := by
  intro m
  induction m with
  | zero =>
    intro i v6 h0 h hq
    rw [hX11_reach_22, if_neg (by omega)]
    refine ⟨-1, rfl, Or.inl ⟨rfl, fun p p0 p1 p2 => ?_⟩⟩
    have h3 := hq p p0 p1 p2
    have := zon_b (ax := ax) ⟨p0, p1⟩
    by_cases cw : wh = 0
    · rw [if_pos cw] at h3; omega
    · rw [if_neg cw] at h3; omega
  | succ m ih =>
    intro i v6 h0 h hq
    have e1 : zar 0 i 1 = i + 1 := by rw [za_0, zw32_i (by omega)]
    have e2 : zar 1 15 i = 15 - i := by rw [za_1, zw32_i (by omega)]
    have main : ∀ t : Int, (t = if wh = 0 then i else 15 - i) → 0 ≤ t → t < 16 → ∃ r, (zcall w d 60 [zA 6 1 a, zI ax, zI t] σ).bind (fun r1 => if 0 < r1.1 then some (t, r1.2) else zden w (d + 1) 169 22 [v0, v1, zI ax, zI wh, zA 6 1 a, zI (i + 1), zI t] [] r1.2) = some (r, σ) ∧ yrc g ax wh r := by
      intro t ht t0 t1
      rw [s_60 w hd ro P ha ⟨t0, t1⟩, Option.bind_some]
      dsimp only
      by_cases c : 0 < (yct (ysl g ax t) 4096 : Int)
      · rw [if_pos c]
        obtain ⟨p, p0, p1, p2⟩ := (yct_pos 4096).1 (show 0 < yct (ysl g ax t) 4096 by omega)
        unfold ysl at p2
        rw [Bool.and_eq_true, decide_eq_true_eq] at p2
        refine ⟨t, rfl, Or.inr ⟨⟨p, p0, p1, p2.2, p2.1⟩, fun q q0 q1 q2 => ?_⟩⟩
        rw [ht]
        have := hq q q0 q1 q2
        by_cases cw : wh = 0
        · rw [if_pos cw] at this; rw [if_pos cw, if_pos cw]; exact this
        · rw [if_neg cw] at this; rw [if_neg cw, if_neg cw]; exact this
      · rw [if_neg c]
        refine ih (i + 1) (zI t) (by omega) (by omega) (fun q q0 q1 q2 => ?_)
        have a1 := hq q q0 q1 q2
        have a2 : zon q ax ≠ t := by
          intro u
          apply c
          have := (yct_pos (g := ysl g ax t) 4096).2 ⟨q, q0, q1, by unfold ysl; rw [decide_eq_true u, q2]; rfl⟩
          omega
        by_cases cw : wh = 0
        · rw [if_pos cw] at a1 ht ⊢; omega
        · rw [if_neg cw] at a1 ht ⊢; omega
    rw [hX11_reach_22, if_pos (by omega), e1, e2]
    by_cases cw : wh = 0
    · rw [if_pos cw]
      exact main i (by rw [if_pos cw]) h0 (by omega)
    · rw [if_neg cw]
      exact main (15 - i) (by rw [if_neg cw]) (by omega) (by omega)
theorem l_256 (w : zW) {d : Nat} (hd : 20 ≤ d) {s n ax wh : Int} {σ : zMem} (hT : zWF (σ 210) n) (h0 : 0 ≤ s) (h1 : s < n) : ∀ (m : Nat) (k b : Int) (v6 : zV), 0 ≤ k → k + m = 4096 →
    ((b = -1 ∧ ∀ p : Int, 0 ≤ p → p < k → ¬ zns (σ 210) s p = true) ∨ ((∃ p : Int, 0 ≤ p ∧ p < k ∧ zns (σ 210) s p = true ∧ zon p ax = b) ∧ ∀ p : Int, 0 ≤ p → p < k → zns (σ 210) s p = true → if wh = 0 then b ≤ zon p ax else zon p ax ≤ b)) →
    ∃ r, zden w (d + 1) 256 24 [zA 13 32 209, zI s, zI ax, zI wh, zI b, zI k, v6] [] σ = some (r, σ) ∧ yrc (zns (σ 210) s) ax wh r := by
  intro m
  induction m with
  | zero =>
    intro k b v6 k0 h hb
    have : k = 4096 := by omega
    subst this
    rw [hX12_reach_24, if_neg (by omega)]
    exact ⟨b, rfl, hb⟩
  | succ m ih =>
    intro k b v6 k0 h hb
    have e1 : zar 0 k 1 = k + 1 := by rw [za_0, zw32_i (by omega)]
    have kr : 0 ≤ k ∧ k < 4096 := ⟨k0, by omega⟩
    have zb := zon_b (ax := ax) kr
    rw [hX12_reach_24, if_pos kr.2, s_248 w hd hT h0 h1 kr, Option.bind_some]
    dsimp only
    rw [zt_if, e1]
    by_cases c : zns (σ 210) s k = true
    · rw [if_pos c, s_254 w (by omega) kr, Option.bind_some]
      dsimp only
      have nx : ∀ b' : Int, (b' = zon k ax ∨ (0 ≤ b ∧ b' = b)) → (if wh = 0 then b' ≤ zon k ax else zon k ax ≤ b') → (0 ≤ b → if wh = 0 then b' ≤ b else b ≤ b') →
          ∃ r, zden w (d + 1) 256 24 [zA 13 32 209, zI s, zI ax, zI wh, zI b', zI (k + 1), zI (zon k ax)] [] σ = some (r, σ) ∧ yrc (zns (σ 210) s) ax wh r := by
        intro b' hb' g1 g2
        refine ih (k + 1) b' _ (by omega) (by omega) (Or.inr ⟨?_, fun p p0 p1 p2 => ?_⟩)
        · rcases hb' with u | ⟨u, v⟩
          · exact ⟨k, k0, by omega, c, u.symm⟩
          · rcases hb with ⟨y, _⟩ | ⟨⟨p, p0, p1, p2, p3⟩, _⟩
            · omega
            · exact ⟨p, p0, by omega, p2, by omega⟩
        · by_cases ck : p = k
          · rw [ck]; exact g1
          · rcases hb with ⟨_, y⟩ | ⟨⟨q, q0, q1, q2, q3⟩, y⟩
            · exact absurd p2 (y p p0 (by omega))
            · have zq := zon_b (ax := ax) (p := q) (by omega)
              have y1 := y p p0 (by omega) p2
              have y2 := g2 (by omega)
              by_cases cw : wh = 0
              · rw [if_pos cw] at y1 y2 ⊢; omega
              · rw [if_neg cw] at y1 y2 ⊢; omega
      by_cases cb : b < 0
      · rw [if_pos cb]
        exact nx _ (Or.inl rfl) (by split <;> omega) (fun u => by omega)
      · rw [if_neg cb]
        by_cases cw : wh = 0
        · rw [if_pos cw, s_343, Option.bind_some]
          dsimp only
          exact nx _ (by omega) (by rw [if_pos cw]; omega) (fun _ => by rw [if_pos cw]; omega)
        · rw [if_neg cw, s_341, Option.bind_some]
          dsimp only
          exact nx _ (by omega) (by rw [if_neg cw]; omega) (fun _ => by rw [if_neg cw]; omega)
    · rw [if_neg c]
      refine ih (k + 1) b v6 (by omega) (by omega) ?_
      rcases hb with ⟨y, z⟩ | ⟨⟨q, q0, q1, q2, q3⟩, y⟩
      · refine Or.inl ⟨y, fun p p0 p1 => ?_⟩
        by_cases ck : p = k
        · rw [ck]; exact c
        · exact z p p0 (by omega)
      · refine Or.inr ⟨⟨q, q0, by omega, q2, q3⟩, fun p p0 p1 p2 => ?_⟩
        by_cases ck : p = k
        · rw [ck] at p2; exact absurd p2 c
        · exact y p p0 (by omega) p2
theorem op_26 (w : zW) (x1 x2 x3 : Int) : zOp zInv w 169 256 [zI x1, zI x2, zI x3] := by
  intro σ hI
  by_cases h : (0 ≤ x1 ∧ x1 < σ 209 1) ∧ (0 ≤ x2 ∧ x2 ≤ 2) ∧ (0 ≤ x3 ∧ x3 ≤ 1)
  · obtain ⟨h1, h2, h3⟩ := h
    have h24 := hI.2.1.1.2.1
    have r2 := (yr_86 w (s := x1) ⟨h1.1, by omega⟩).2
    obtain ⟨σ1, m, P, I1, E, n1, -⟩ := s_198 w (d := 998) (by decide) hI h1.1 h1.2
    obtain ⟨r, e1, q1⟩ := l_169 w (d := 998) (by decide) (v0 := zA 12 16 1) (v1 := zI x1) (wh := x3) r2 P h2 16 0 zU (by decide) (by decide) (fun p p0 p1 _ => by have := zon_b (ax := x2) (p := p) ⟨p0, p1⟩; split <;> omega)
    obtain ⟨r', e2, q2⟩ := l_256 w (d := 998) (by decide) (s := x1) (ax := x2) (wh := x3) (σ := σ1) I1.2.1.1 h1.1 (by omega) 4096 0 (-1) zU (by decide) (by decide) (Or.inl ⟨rfl, fun p p0 p1 => by omega⟩)
    rw [E] at q2
    rw [← yrc_u q1 q2] at e2
    refine yps w r (σ2 := σ1) I1 ((eX11_reach w 998 x1 x2 x3 σ).trans ?_) ((eX12_reach w 998 x1 x2 x3 σ1).trans ?_) (zalk_r _)
    · rw [yA1 w hI, Option.bind_some]
      dsimp only
      rw [zt_if, if_pos (by omega)]
      rw [s_203, Option.bind_some]
      dsimp only
      rw [zt_if, if_pos (by omega)]
      rw [s_200, Option.bind_some]
      dsimp only
      rw [zt_if, if_pos (by omega)]
      rw [m, Option.bind_some]
      exact e1
    · rw [yB1 w I1, Option.bind_some]
      dsimp only
      rw [zt_if, if_pos (by omega)]
      rw [s_213, Option.bind_some]
      dsimp only
      rw [zt_if, if_pos (by omega)]
      rw [s_213, Option.bind_some]
      dsimp only
      rw [zt_if, if_pos (by omega)]
      exact e2
  · refine yop (-62) (zrA σ (-62)) (zrB (zrA σ (-62)) (-62)) ((eX11_reach w 998 x1 x2 x3 σ).trans ?_) ((eX12_reach w 998 x1 x2 x3 _).trans ?_) (zref0 hI)
    · rw [yA1 w hI, Option.bind_some]
      dsimp only
      rw [zt_if]
      by_cases u0 : 0 ≤ x1 ∧ x1 < σ 209 1
      · rw [if_pos (by omega)]
        rw [s_203, Option.bind_some]
        dsimp only
        rw [zt_if]
        by_cases u1 : 0 ≤ x2 ∧ x2 ≤ 2
        · rw [if_pos (by omega)]
          rw [s_200, Option.bind_some]
          dsimp only
          rw [zt_if]
          rw [if_neg (fun u => h ⟨u0, u1, (by omega)⟩)]
          exact ybA w σ
        · rw [if_neg (by omega)]; exact ybA w σ
      · rw [if_neg (by omega)]; exact ybA w σ
    · rw [yB1' w hI, Option.bind_some]
      dsimp only
      rw [zt_if]
      by_cases u0 : 0 ≤ x1 ∧ x1 < σ 209 1
      · rw [if_pos (by omega)]
        rw [s_213, Option.bind_some]
        dsimp only
        rw [zt_if]
        by_cases u1 : 0 ≤ x2 ∧ x2 ≤ 2
        · rw [if_pos (by omega)]
          rw [s_213, Option.bind_some]
          dsimp only
          rw [zt_if]
          rw [if_neg (fun u => h ⟨u0, u1, (by omega)⟩)]
          exact ybB w _
        · rw [if_neg (by omega)]; exact ybB w _
      · rw [if_neg (by omega)]; exact ybB w _
theorem yzt (P : Prop) [Decidable P] : zbo (zt P) = decide P := by
  unfold zbo zt
  by_cases c : P
  · rw [if_pos c, decide_eq_true c]; rfl
  · rw [if_neg c, decide_eq_false c]; rfl
theorem op_37 (w : zW) (x1 x2 : Int) : zOp zInv w 184 324 [zI x1, zI x2] := by
  intro σ hI
  by_cases h : (0 ≤ x1 ∧ x1 < σ 209 1) ∧ (0 ≤ x2 ∧ x2 ≤ 3)
  · obtain ⟨h1, h2⟩ := h
    have h24 := hI.2.1.1.2.1
    have r2 := (yr_86 w (s := x1) ⟨h1.1, by omega⟩).2
    obtain ⟨σ1, m, P, I1, E, n1, -⟩ := s_198 w (d := 998) (by decide) hI h1.1 h1.2
    have hB := I1.2.2.2.2.1
    have hv := hB.1
    obtain ⟨σ2, k1, k2, k3⟩ := s_7 w (d := 998) (by decide) (a1 := 121 + 2 * x1) (how := x2) (g := fun p => zt (zns (σ 210) x1 p = true)) h2 hv (by rw [r2]; omega) (fun p _ _ => by unfold zt; split <;> decide) (by
      rw [r2]
      intro p a b
      rw [P p a b]
      dsimp only
      rw [yzt]
      cases zns (σ 210) x1 p <;> rfl)
    have E2 : σ2 210 = σ 210 := (funext fun k => k3 _ _ (by decide)).trans E
    have n2 : σ2 209 1 = σ 209 1 := (k3 _ _ (by decide)).trans n1
    have e3 := s_249 w (d := 998) (by decide) (σ := σ2) (n := σ 209 1) (o := 0) (s := x1) (by decide) (by rw [E2]; exact hI.2.1.1) h1.1 h1.2
    rw [E2] at e3
    generalize hσ3 : yfm (215 + 0) (fun p => zt (zns (σ 210) x1 p = true)) 0 4096 σ2 = σ3 at *
    have f3 : ∀ a k, a ≠ 215 → σ3 a k = σ2 a k := fun a k h => by rw [← hσ3]; exact yfm_f (by omega)
    have g3 : ∀ p : Int, 0 ≤ p → p < 4096 → σ3 215 p = (fun p => zt (zns (σ 210) x1 p = true)) p := fun p a b => by rw [← hσ3]; exact yfm_t (by omega)
    have R1 : yRl σ2 (yBof σ1) := yRl_fr hv.2.2.2.2.2.2.1 (yBof_R hB) (fun a k q => k3 a k (by omega))
    have R2 : yRl σ3 (yBof σ1) := yRl_fr hv.2.2.2.2.2.2.1 R1 (fun a k q => f3 a k (by omega))
    obtain ⟨σ4, j1, j2⟩ := s_323 w 998 (how := x2) (σ := σ3) (by rw [R2.2.1]; exact ⟨hv.2.2.2.2.2.1, hv.2.2.2.2.2.2.1⟩) R2.2.2.2.2.1
    have R3 : yRl σ4 (ycv x2 (fun p => zt (zns (σ 210) x1 p = true)) (σ1 209 26) (yBof σ1)) := yRl_cv (B := yBof σ1) R2 ⟨hv.2.2.2.2.2.1, hv.2.2.2.2.2.2.1⟩ g3 j2
    have C3 : yCl σ4 (ycv x2 (fun p => zt (zns (σ 210) x1 p = true)) (σ1 209 26) (yBof σ1)) := zBl_fr (fun a k x y => (j2.2.2.2.2.2.2 a k (by omega) (by omega) (by omega)).trans (f3 a k (by omega))) k2
    have ec : (yct (fun p => zbo (ych x2 (σ3 229 p) (σ3 215 p))) 4096 : Nat) = yct (fun p => zbo (ych x2 (σ1 229 p) (zt (zns (σ 210) x1 p = true)))) 4096 := yct_c fun p a b => by
      rw [g3 p a b, R2.1 p a b]; rfl
    refine yop ((yct (fun p => zbo (ych x2 (σ1 229 p) (zt (zns (σ 210) x1 p = true)))) 4096 : Nat) : Int) σ2 σ4 ((eX11_carve w 998 x1 x2 σ).trans ?_) ((eX12_carve w 998 x1 x2 σ2).trans ?_) (zInv_B2 I1 (fun a k q r t => ?_) (zI_B_of C3 R3))
    · rw [yA1 w hI, Option.bind_some]
      dsimp only
      rw [zt_if, if_pos (by omega)]
      rw [s_200, Option.bind_some]
      dsimp only
      rw [zt_if, if_pos (by omega)]
      rw [m, Option.bind_some]
      dsimp only
      rw [k1]
      rfl
    · rw [s_218 w (by decide) _ (by rw [n2]; exact ⟨hI.2.1.1.1, h24⟩), Option.bind_some]
      dsimp only
      rw [zt_if, if_pos (by omega), s_213, Option.bind_some]
      dsimp only
      rw [zt_if, if_pos (by omega), e3, Option.bind_some]
      dsimp only
      rw [j1, ec]
      rfl
    · unfold zsB at q
      exact (j2.2.2.2.2.2.2 a k (by omega) (by omega) (by omega)).trans ((f3 a k (by omega)).trans (k3 a k (by omega)))
  · refine yop (-62) (zrA σ (-62)) (zrB (zrA σ (-62)) (-62)) ((eX11_carve w 998 x1 x2 σ).trans ?_) ((eX12_carve w 998 x1 x2 _).trans ?_) (zref0 hI)
    · rw [yA1 w hI, Option.bind_some]
      dsimp only
      rw [zt_if]
      by_cases u0 : 0 ≤ x1 ∧ x1 < σ 209 1
      · rw [if_pos (by omega)]
        rw [s_200, Option.bind_some]
        dsimp only
        rw [zt_if]
        rw [if_neg (fun u => h ⟨u0, (by omega)⟩)]
        exact ybA w σ
      · rw [if_neg (by omega)]; exact ybA w σ
    · rw [yB1' w hI, Option.bind_some]
      dsimp only
      rw [zt_if]
      by_cases u0 : 0 ≤ x1 ∧ x1 < σ 209 1
      · rw [if_pos (by omega)]
        rw [s_213, Option.bind_some]
        dsimp only
        rw [zt_if]
        rw [if_neg (fun u => h ⟨u0, (by omega)⟩)]
        exact ybB w _
      · rw [if_neg (by omega)]; exact ybB w _
theorem l_329 (w : zW) {d : Nat} (hd : 20 ≤ d) {s n : Int} {σ : zMem} (hT : zWF (σ 210) n) (h0 : 0 ≤ s) (h1 : s < n) (hb : ∀ p : Int, 0 ≤ p → p < 4096 → 0 ≤ σ 229 p ∧ σ 229 p ≤ 1) : ∀ (m k : Nat), k + m = 4096 →
    zden w (d + 1) 329 12 [zA 13 32 209, zI s, zI (yct (fun p => zns (σ 210) s p != zbo (σ 229 p)) k : Nat), zI (k : Int)] [] σ = some (((yct (fun p => zns (σ 210) s p != zbo (σ 229 p)) 4096 : Nat) : Int), σ) := by
  intro m
  induction m with
  | zero =>
    intro k h
    have : k = 4096 := by omega
    subst this
    rw [hX12_off_12, if_neg (by omega)]
  | succ m ih =>
    intro k h
    have b := yct_le (fun p => zns (σ 210) s p != zbo (σ 229 p)) k
    have e1 : zar 0 (k : Int) 1 = ((k + 1 : Nat) : Int) := by rw [za_0, zw32_i (by omega)]; omega
    have i2 := ih (k + 1) (by omega)
    rw [yct_s] at i2
    have kr : (0 : Int) ≤ (k : Int) ∧ (k : Int) < 4096 := by omega
    have hk := hb k kr.1 kr.2
    rw [hX12_off_12, if_pos kr.2, if_pos kr, s_248 w hd hT h0 h1 kr, Option.bind_some]
    dsimp only
    rw [e1, za_0, za_0]
    have key : σ 229 k = zt (zns (σ 210) s k = true) ↔ ¬ (zns (σ 210) s k != zbo (σ 229 k)) = true := by
      have : σ 229 k = 0 ∨ σ 229 k = 1 := by omega
      rcases this with e | e <;> rw [e] <;> cases zns (σ 210) s k <;> decide
    by_cases c : σ 229 k = zt (zns (σ 210) s k = true)
    · rw [if_pos c, zw32_i (z := (yct (fun p => zns (σ 210) s p != zbo (σ 229 p)) k : Int) + 0) (by omega)]
      rw [if_neg (key.1 c)] at i2
      exact i2
    · rw [if_neg c, zw32_i (z := (yct (fun p => zns (σ 210) s p != zbo (σ 229 p)) k : Int) + 1) (by omega)]
      rw [if_pos (Decidable.byContradiction fun u => c (key.2 u))] at i2
      exact i2
theorem op_41 (w : zW) (x1 : Int) : zOp zInv w 188 329 [zI x1] := by
  intro σ hI
  by_cases h : 0 ≤ x1 ∧ x1 < σ 209 1
  · have h1 := h
    have h24 := hI.2.1.1.2.1
    have r2 := (yr_86 w (s := x1) ⟨h1.1, by omega⟩).2
    obtain ⟨σ1, m, P, I1, E, n1, -⟩ := s_198 w (d := 998) (by decide) hI h1.1 h1.2
    have hv := I1.2.2.2.2.1.1
    have e2 := l_329 w (d := 998) (by decide) (s := x1) (σ := σ1) I1.2.1.1 h1.1 (by omega) hv.2.2.2.2.2.2.2.2.1 4096 0 (by omega)
    rw [E] at e2
    have q1 : zR w 18 0 = 19 := rfl
    have q2 : zR w 19 0 = 20 := rfl
    have ec := yct_c (n := 4096) (f := fun p => zbit σ1 (122 + 2 * x1) p != zbit σ1 20 p) (g := fun p => zns (σ 210) x1 p != zbo (σ1 229 p)) (fun p a b => by
      have t := hv.2.2.2.2.2.2.2.1 p a b
      dsimp only at t
      rw [P p a b]
      exact congrArg _ t)
    refine yps w (((yct (fun p => zns (σ 210) x1 p != zbo (σ1 229 p)) 4096 : Nat) : Int)) (σ2 := σ1) I1 ((eX11_off w 998 x1 σ).trans ?_) ((eX12_off w 998 x1 σ1).trans ?_) (zalk_r _)
    · rw [yA1 w hI, Option.bind_some]
      dsimp only
      rw [zt_if, if_pos (by omega)]
      rw [m, Option.bind_some]
      dsimp only
      rw [eX0_places, Option.bind_some]
      dsimp only
      rw [s_59 w (by decide), r2, q1, q2, ec]
      rfl
    · rw [yB1 w I1, Option.bind_some]
      dsimp only
      rw [zt_if, if_pos (by omega)]
      exact e2
  · refine yop (-62) (zrA σ (-62)) (zrB (zrA σ (-62)) (-62)) ((eX11_off w 998 x1 σ).trans ?_) ((eX12_off w 998 x1 _).trans ?_) (zref0 hI)
    · rw [yA1 w hI, Option.bind_some]
      dsimp only
      rw [zt_if]
      rw [if_neg h]
      exact ybA w σ
    · rw [yB1' w hI, Option.bind_some]
      dsimp only
      rw [zt_if]
      rw [if_neg h]
      exact ybB w _
end
