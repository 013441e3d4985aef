section
/-! Places that are moved; calls 28, 32, 33: skin, even, apart -/
def yst (ax : Int) : Int := if ax = 0 then 256 else if ax = 1 then 16 else 1
/-- the place that is so much more on an axis, or -1 -/
def ymo (p ax by' : Int) : Int := if (0 ≤ p ∧ p < 4096) ∧ 0 ≤ zon p ax + by' ∧ zon p ax + by' ≤ 15 then p + by' * yst ax else -1
theorem yst_3 {ax : Int} (h : 0 ≤ ax ∧ ax ≤ 2) : (ax = 0 ∧ yst ax = 256) ∨ (ax = 1 ∧ yst ax = 16) ∨ (ax = 2 ∧ yst ax = 1) := by
  have : ax = 0 ∨ ax = 1 ∨ ax = 2 := by omega
  rcases this with rfl | rfl | rfl
  · exact Or.inl ⟨rfl, rfl⟩
  · exact Or.inr (Or.inl ⟨rfl, rfl⟩)
  · exact Or.inr (Or.inr ⟨rfl, rfl⟩)
theorem ymo_v {p ax b : Int} (ha : 0 ≤ ax ∧ ax ≤ 2) (hp : 0 ≤ p ∧ p < 4096) (h : 0 ≤ zon p ax + b ∧ zon p ax + b ≤ 15) : 0 ≤ p + b * yst ax ∧ p + b * yst ax < 4096 := by
  obtain ⟨o1, o2, o3⟩ := yon p
  rcases yst_3 ha with ⟨e, f⟩ | ⟨e, f⟩ | ⟨e, f⟩ <;> rw [f] <;> rw [e] at h <;> omega
theorem ymo_b {p ax b : Int} (ha : 0 ≤ ax ∧ ax ≤ 2) : ymo p ax b = -1 ∨ (0 ≤ ymo p ax b ∧ ymo p ax b < 4096) := by
  unfold ymo
  split
  · rename_i h; exact Or.inr (ymo_v ha h.1 h.2)
  · exact Or.inl rfl
theorem s_211 (w : zW) {d : Nat} (hd : 2 ≤ d) {p ax b : Int} (ha : 0 ≤ ax ∧ ax ≤ 2) (hb : -100 ≤ b ∧ b ≤ 100) (σ : zMem) : zcall w d 211 [zI p, zI ax, zI b] σ = some (ymo p ax b, σ) := by
  obtain ⟨d, rfl⟩ : ∃ e, d = e + 1 := ⟨d - 1, by omega⟩
  rw [eX11_moved, s_202, Option.bind_some]
  dsimp only
  rw [zt_if, ymo]
  by_cases hp : 0 ≤ p ∧ p < 4096
  · have z := zon_b (ax := ax) hp
    rw [if_pos hp, s_209 w (by omega) hp (by omega), Option.bind_some]
    dsimp only
    rw [za_0, zw32_i (by omega), s_200, Option.bind_some]
    dsimp only
    rw [zt_if]
    by_cases h : 0 ≤ zon p ax + b ∧ zon p ax + b ≤ 15
    · have v := ymo_v ha hp h
      have es : zar 9 b (4 * (2 - ax)) = b * yst ax := by
        have : ax = 0 ∨ ax = 1 ∨ ax = 2 := by omega
        rw [za_9, zshl]
        rcases this with rfl | rfl | rfl
        · have e : zu32 (4 * (2 - 0)) % 32 = 8 := rfl
          rw [e, zw32_i (by omega)]; rfl
        · have e : zu32 (4 * (2 - 1)) % 32 = 4 := rfl
          rw [e, zw32_i (by omega)]; rfl
        · have e : zu32 (4 * (2 - 2)) % 32 = 0 := rfl
          rw [e, zw32_i (by omega)]; rfl
      rw [if_pos h, s_210 w d (by omega), Option.bind_some]
      dsimp only
      rw [es, za_0, zw32_i (by omega), if_pos ⟨hp, h⟩]
    · rw [if_neg h, if_neg (fun u => h u.2)]
  · rw [if_neg hp, if_neg (fun u => hp u.1)]
/-- a place that may be none -/
def yvl (g : Int → Bool) (q : Int) : Bool := decide (0 ≤ q ∧ q < 4096) && g q
theorem s_49g (w : zW) {d : Nat} (hd : 1 ≤ d) {a o : Int} {g : Int → Bool} {σ : zMem} (ro : zR w a 0 = o) (P : zPS σ o g) (q : Int) : zcall w d 49 [zA 6 1 a, zI q] σ = some (zt (yvl g q = true), σ) := by
  rw [s_49 w hd, ro]
  by_cases c : 0 ≤ q ∧ q < 4096
  · have e : ((0 ≤ q ∧ q < 4096) ∧ zbit σ o q = true) ↔ yvl g q = true := by
      unfold yvl
      rw [P q c.1 c.2, Bool.and_eq_true, decide_eq_true_eq]
    unfold zt
    by_cases c2 : yvl g q = true
    · rw [if_pos c2, if_pos (e.2 c2)]
    · rw [if_neg c2, if_neg (fun u => c2 (e.1 u))]
  · rw [zt_n (fun u => c u.1), zt_n (by unfold yvl; rw [Bool.and_eq_true, decide_eq_true_eq]; exact fun u => c u.1)]
theorem zt_eq {P Q : Bool} : (zt (P = true) = zt (Q = true)) ↔ P = Q := by cases P <;> cases Q <;> decide
theorem yvl_p {g : Int → Bool} {q : Int} (h : 0 ≤ q ∧ q < 4096) : yvl g q = g q := by unfold yvl; rw [decide_eq_true h]; exact Bool.true_and _
/-! even -/
def yev (g : Int → Bool) (ax : Int) : Nat → Int → Int
  | 0, _ => 1
  | m + 1, k => if g k = g (k + (15 - 2 * zon k ax) * yst ax) then yev g ax m (k + 1) else 0
theorem yev_v {p ax : Int} (ha : 0 ≤ ax ∧ ax ≤ 2) (hp : 0 ≤ p ∧ p < 4096) : ymo p ax (15 - 2 * zon p ax) = p + (15 - 2 * zon p ax) * yst ax ∧ 0 ≤ p + (15 - 2 * zon p ax) * yst ax ∧ p + (15 - 2 * zon p ax) * yst ax < 4096 := by
  have z := zon_b (ax := ax) hp
  have v := ymo_v ha hp (b := 15 - 2 * zon p ax) (by omega)
  exact ⟨by rw [ymo, if_pos ⟨hp, by omega⟩], v⟩
theorem l_173 (w : zW) {d : Nat} (hd : 2 ≤ d) {a o ax : Int} {g : Int → Bool} {σ : zMem} {v0 v1 : zV} (ro : zR w a 0 = o) (P : zPS σ o g) (ha : 0 ≤ ax ∧ ax ≤ 2) : ∀ (m : Nat) (k : Int) (v5 : zV), 0 ≤ k → k + m = 4096 →
    zden w (d + 1) 173 17 [v0, v1, zI ax, zA 6 1 a, zI k, v5] [] σ = some (yev g ax m k, σ) := by
  intro m
  induction m with
  | zero => intro k v5 h0 h; rw [hX11_even_17, if_neg (by omega)]; rfl
  | succ m ih =>
    intro k v5 h0 h
    have hk : 0 ≤ k ∧ k < 4096 := ⟨h0, by omega⟩
    have z := zon_b (ax := ax) hk
    obtain ⟨v1, v2⟩ := yev_v ha hk
    have e1 : zar 0 k 1 = k + 1 := by rw [za_0, zw32_i (by omega)]
    have e2 : zar 1 15 (zar 2 2 (zon k ax)) = 15 - 2 * zon k ax := by rw [za_2, zw32_i (by omega), za_1, zw32_i (by omega)]
    rw [hX11_even_17, if_pos hk.2, s_209 w (by omega) hk (by omega), Option.bind_some]
    dsimp only
    rw [e2, s_211 w hd ha (by omega), Option.bind_some]
    dsimp only
    rw [s_49g w (by omega) ro P, Option.bind_some]
    dsimp only
    rw [s_49g w (by omega) ro P, Option.bind_some]
    dsimp only
    rw [v1, e1, ih _ _ (by omega) (by omega), yvl_p hk, yvl_p v2, yev]
    by_cases c : g k = g (k + (15 - 2 * zon k ax) * yst ax)
    · rw [if_pos (zt_eq.2 c), if_pos c]
    · rw [if_neg (fun u => c (zt_eq.1 u)), if_neg c]
theorem s_267 (w : zW) {d : Nat} (hd : 2 ≤ d) {p ax : Int} (ha : 0 ≤ ax ∧ ax ≤ 2) (hp : 0 ≤ p ∧ p < 4096) (σ : zMem) : zcall w d 267 [zI p, zI ax] σ = some (p + (15 - 2 * zon p ax) * yst ax, σ) := by
  obtain ⟨d, rfl⟩ : ∃ e, d = e + 1 := ⟨d - 1, by omega⟩
  have z := zon_b (ax := ax) hp
  have v := (yev_v ha hp).2
  have e2 : zar 1 15 (zar 2 2 (zon p ax)) = 15 - 2 * zon p ax := by rw [za_2, zw32_i (by omega), za_1, zw32_i (by omega)]
  have e3 : ∀ s : Int, (s = 256 ∨ s = 16 ∨ s = 1) → yst ax = s → zar 0 p (zar 2 s (15 - 2 * zon p ax)) = p + (15 - 2 * zon p ax) * yst ax := by
    intro s hs e
    rw [e] at v ⊢
    rcases hs with rfl | rfl | rfl
    · rw [za_2, zw32_i (by omega), za_0, zw32_i (by omega)]; omega
    · rw [za_2, zw32_i (by omega), za_0, zw32_i (by omega)]; omega
    · rw [za_2, zw32_i (by omega), za_0, zw32_i (by omega)]; omega
  rw [eX12_turned]
  rcases yst_3 ha with ⟨e, f⟩ | ⟨e, f⟩ | ⟨e, f⟩
  · rw [if_pos e, s_254 w (by omega) hp, Option.bind_some]
    dsimp only
    rw [e2, e3 256 (by decide) f]
  · rw [if_neg (by omega), if_pos e, s_254 w (by omega) hp, Option.bind_some]
    dsimp only
    rw [e2, e3 16 (by decide) f]
  · rw [if_neg (by omega), if_neg (by omega), s_254 w (by omega) hp, Option.bind_some]
    dsimp only
    rw [e2, e3 1 (by decide) f]
theorem l_268 (w : zW) {d : Nat} (hd : 2 ≤ d) {ax : Int} {g : Int → Bool} {σ : zMem} {v1 : zV} (hs : ∀ p : Int, 0 ≤ p → p < 4096 → σ 215 p = zt (g p = true)) (ha : 0 ≤ ax ∧ ax ≤ 2) : ∀ (m : Nat) (k : Int) (v3 : zV), 0 ≤ k → k + m = 4096 →
    zden w (d + 1) 268 21 [zA 13 32 209, v1, zI ax, v3, zI k] [] σ = some (yev g ax m k, σ) := by
  intro m
  induction m with
  | zero => intro k v3 h0 h; rw [hX12_even_21, if_neg (by omega)]; rfl
  | succ m ih =>
    intro k v3 h0 h
    have hk : 0 ≤ k ∧ k < 4096 := ⟨h0, by omega⟩
    obtain ⟨-, v2⟩ := yev_v ha hk
    have e1 : zar 0 k 1 = k + 1 := by rw [za_0, zw32_i (by omega)]
    rw [hX12_even_21, if_pos hk.2, if_pos hk, s_267 w hd ha hk, Option.bind_some]
    dsimp only
    rw [if_pos v2, e1, ih _ _ (by omega) (by omega), yev]
    simp only [hs _ hk.1 hk.2, hs _ v2.1 v2.2]
    by_cases c : g k = g (k + (15 - 2 * zon k ax) * yst ax)
    · rw [if_pos (zt_eq.2 c), if_pos c]
    · rw [if_neg (fun u => c (zt_eq.1 u)), if_neg c]
theorem op_32 (w : zW) (x1 x2 : Int) : zOp zInv w 173 268 [zI x1, zI x2] := by
  intro σ hI
  by_cases h : (0 ≤ x1 ∧ x1 < σ 209 1) ∧ (0 ≤ x2 ∧ x2 ≤ 2)
  · obtain ⟨h1, h2⟩ := h
    have h24 := hI.2.1.1.2.1
    have r2 := (yr_86 w (s := x1) ⟨h1.1, by omega⟩).2
    obtain ⟨σ1, m, P, I1, E, n1, -⟩ := s_198 w (d := 998) (by decide) hI h1.1 h1.2
    have e3 := s_249 w (d := 998) (by decide) (σ := σ1) (n := σ1 209 1) (o := 0) (s := x1) (by decide) I1.2.1.1 h1.1 (by omega)
    rw [E] at e3
    have e4 := l_268 w (d := 998) (by decide) (ax := x2) (g := zns (σ 210) x1) (v1 := zI x1) (σ := yfm (215 + 0) (fun p => zt (zns (σ 210) x1 p = true)) 0 4096 σ1) (fun p a b => yfm_t (by omega)) h2 4096 0 (zI (yct (zns (σ 210) x1) 4096 : Nat)) (by decide) (by decide)
    refine yps w (yev (zns (σ 210) x1) x2 4096 0) (σ2 := yfm (215 + 0) (fun p => zt (zns (σ 210) x1 p = true)) 0 4096 σ1) I1 ((eX11_even w 998 x1 x2 σ).trans ?_) ((eX12_even w 998 x1 x2 σ1).trans ?_) (yfm_alk (by decide))
    · rw [yA1 w hI, Option.bind_some]
      dsimp only
      rw [zt_if, if_pos (by omega)]
      rw [s_203, Option.bind_some]
      dsimp only
      rw [zt_if, if_pos (by omega)]
      rw [m, Option.bind_some]
      exact l_173 w (by decide) r2 P h2 4096 0 _ (by decide) (by decide)
    · rw [yB1 w I1, Option.bind_some]
      dsimp only
      rw [zt_if, if_pos (by omega)]
      rw [s_213, Option.bind_some]
      dsimp only
      rw [zt_if, if_pos (by omega)]
      rw [e3, Option.bind_some]
      exact e4
  · refine yop (-62) (zrA σ (-62)) (zrB (zrA σ (-62)) (-62)) ((eX11_even w 998 x1 x2 σ).trans ?_) ((eX12_even w 998 x1 x2 _).trans ?_) (zref0 hI)
    · rw [yA1 w hI, Option.bind_some]
      dsimp only
      rw [zt_if]
      by_cases u0 : 0 ≤ x1 ∧ x1 < σ 209 1
      · rw [if_pos (by omega)]
        rw [s_203, Option.bind_some]
        dsimp only
        rw [zt_if]
        rw [if_neg (fun u => h ⟨u0, (by omega)⟩)]
        exact ybA w σ
      · rw [if_neg (by omega)]; exact ybA w σ
    · rw [yB1' w hI, Option.bind_some]
      dsimp only
      rw [zt_if]
      by_cases u0 : 0 ≤ x1 ∧ x1 < σ 209 1
      · rw [if_pos (by omega)]
        rw [s_213, Option.bind_some]
        dsimp only
        rw [zt_if]
        rw [if_neg (fun u => h ⟨u0, (by omega)⟩)]
        exact ybB w _
      · rw [if_neg (by omega)]; exact ybB w _
/-! apart -/
def ymt (f g : Int → Bool) (ax b : Int) : Nat → Int → Bool
  | 0, _ => false
  | m + 1, k => (f k && yvl g (ymo k ax b)) || ymt f g ax b m (k + 1)
theorem l_177 (w : zW) {d : Nat} (hd : 2 ≤ d) {a1 a2 o1 o2 ax b : Int} {f g : Int → Bool} {σ : zMem} (r1 : zR w a1 0 = o1) (r2 : zR w a2 0 = o2) (P : zPS σ o1 f) (P' : zPS σ o2 g) (ha : 0 ≤ ax ∧ ax ≤ 2) (hb : 0 ≤ b ∧ b < 16) : ∀ (m : Nat) (k : Int), 0 ≤ k → k + m = 4096 →
    zden w (d + 1) 177 2 [zA 6 1 a1, zA 6 1 a2, zI ax, zI b, zI k] [] σ = some (zt (ymt f g ax b m k = true), σ) := by
  intro m
  induction m with
  | zero => intro k h0 h; rw [kX11_meets_2, if_neg (by omega)]; rfl
  | succ m ih =>
    intro k h0 h
    have hk : 0 ≤ k ∧ k < 4096 := ⟨h0, by omega⟩
    have e1 : zar 0 k 1 = k + 1 := by rw [za_0, zw32_i (by omega)]
    rw [kX11_meets_2, if_pos hk.2, s_49g w (by omega) r1 P, Option.bind_some]
    dsimp only
    rw [zt_if, yvl_p hk, e1, ih _ (by omega) (by omega), ymt]
    by_cases c : f k = true
    · rw [if_pos c, s_211 w hd ha (by omega), Option.bind_some]
      dsimp only
      rw [s_49g w (by omega) r2 P', Option.bind_some]
      dsimp only
      rw [zt_if, c, Bool.true_and]
      by_cases c2 : yvl g (ymo k ax b) = true
      · rw [if_pos c2, c2]; rfl
      · rw [if_neg c2, Bool.eq_false_iff.2 c2, Bool.false_or]
        exact ih _ (by omega) (by omega)
    · rw [if_neg c, Bool.eq_false_iff.2 c, Bool.false_and, Bool.false_or]
theorem l_269 (w : zW) {d : Nat} (hd : 2 ≤ d) {ax b s : Int} {f g : Int → Bool} {σ : zMem} (hf : ∀ p : Int, 0 ≤ p → p < 4096 → σ 215 p = zt (f p = true)) (hg : ∀ p : Int, 0 ≤ p → p < 4096 → σ 216 p = zt (g p = true)) (ha : 0 ≤ ax ∧ ax ≤ 2) (hs : s = yst ax) (hb : 0 ≤ b ∧ b < 16) : ∀ (m : Nat) (k : Int), 0 ≤ k → k + m = 4096 →
    zden w (d + 1) 269 13 [zA 13 32 209, zI ax, zI b, zI s, zI k] [] σ = some (zt (ymt f g ax b m k = true), σ) := by
  have bs : 1 ≤ s ∧ s ≤ 256 := by rcases yst_3 ha with ⟨e, f⟩ | ⟨e, f⟩ | ⟨e, f⟩ <;> omega
  have bm : 0 ≤ b * s ∧ b * s ≤ 4096 := by
    rcases yst_3 ha with ⟨e, f⟩ | ⟨e, f⟩ | ⟨e, f⟩ <;> rw [hs, f] <;> omega
  intro m
  induction m with
  | zero => intro k h0 h; rw [hX12_meets_13, if_neg (by omega)]; rfl
  | succ m ih =>
    intro k h0 h
    have hk : 0 ≤ k ∧ k < 4096 := ⟨h0, by omega⟩
    have z := zon_b (ax := ax) hk
    have e1 : zar 0 k 1 = k + 1 := by rw [za_0, zw32_i (by omega)]
    have e2 : zar 0 k (zar 2 b s) = k + b * yst ax := by rw [za_2, zw32_i (by omega), za_0, zw32_i (by omega), hs]
    rw [hX12_meets_13, if_pos hk.2, if_pos hk, hf _ hk.1 hk.2, zt_if, e1, ih _ (by omega) (by omega), ymt]
    by_cases c : f k = true
    · rw [if_pos c, s_254 w (by omega) hk, Option.bind_some]
      dsimp only
      rw [za_0 (zon k ax), zw32_i (by omega), c, Bool.true_and]
      by_cases c2 : 15 < zon k ax + b
      · have e : ymo k ax b = -1 := by rw [ymo, if_neg (fun u => by omega)]
        have e' : yvl g (-1) = false := by unfold yvl; rw [decide_eq_false (by decide), Bool.false_and]
        rw [if_pos c2, e, e', Bool.false_or]
        exact ih _ (by omega) (by omega)
      · have v := ymo_v ha hk (b := b) (by omega)
        have e : ymo k ax b = k + b * yst ax := by rw [ymo, if_pos ⟨hk, by omega⟩]
        rw [if_neg c2, e2, if_pos v, e, yvl_p v]
        simp only [hg _ v.1 v.2, zt_if]
        by_cases c3 : g (k + b * yst ax) = true
        · rw [if_pos c3, c3]; rfl
        · rw [if_neg c3, Bool.eq_false_iff.2 c3, Bool.false_or]
          exact ih _ (by omega) (by omega)
    · rw [if_neg c, Bool.eq_false_iff.2 c, Bool.false_and, Bool.false_or]
def yap (f g : Int → Bool) (ax : Int) : Nat → Int → Int
  | 0, k => k
  | m + 1, k => if ymt f g ax k 4096 0 = true then yap f g ax m (k + 1) else k
theorem l_176 (w : zW) {d : Nat} (hd : 3 ≤ d) {a1 a2 o1 o2 ax : Int} {f g : Int → Bool} {σ : zMem} {v0 v1 v2 : zV} (r1 : zR w a1 0 = o1) (r2 : zR w a2 0 = o2) (P : zPS σ o1 f) (P' : zPS σ o2 g) (ha : 0 ≤ ax ∧ ax ≤ 2) : ∀ (m : Nat) (k : Int), 0 ≤ k → k + m = 16 →
    zden w (d + 1) 176 25 [v0, v1, v2, zI ax, zA 6 1 a1, zA 6 1 a2, zI k] [] σ = some (yap f g ax m k, σ) := by
  obtain ⟨d, rfl⟩ : ∃ e, d = e + 1 := ⟨d - 1, by omega⟩
  intro m
  induction m with
  | zero =>
    intro k h0 h
    have : k = 16 := by omega
    subst this
    rw [hX11_apart_25, if_neg (by omega)]; rfl
  | succ m ih =>
    intro k h0 h
    have e1 : zar 0 k 1 = k + 1 := by rw [za_0, zw32_i (by omega)]
    rw [hX11_apart_25, if_pos (by omega), eX11_meets, l_177 w (by omega) r1 r2 P P' ha ⟨h0, by omega⟩ 4096 0 (by decide) (by decide), Option.bind_some]
    dsimp only
    rw [zt_if, e1, ih _ (by omega) (by omega), yap]
    split <;> rfl
theorem l_270 (w : zW) {d : Nat} (hd : 3 ≤ d) {ax : Int} {f g : Int → Bool} {σ : zMem} {v1 v2 : zV} (hf : ∀ p : Int, 0 ≤ p → p < 4096 → σ 215 p = zt (f p = true)) (hg : ∀ p : Int, 0 ≤ p → p < 4096 → σ 216 p = zt (g p = true)) (ha : 0 ≤ ax ∧ ax ≤ 2) : ∀ (m : Nat) (k : Int) (v4 : zV), 0 ≤ k → k + m = 16 →
    zden w (d + 1) 270 25 [zA 13 32 209, v1, v2, zI ax, v4, zI k] [] σ = some (yap f g ax m k, σ) := by
  obtain ⟨d, rfl⟩ : ∃ e, d = e + 1 := ⟨d - 1, by omega⟩
  intro m
  induction m with
  | zero =>
    intro k v4 h0 h
    have : k = 16 := by omega
    subst this
    rw [hX12_apart_25, if_neg (by omega)]; rfl
  | succ m ih =>
    intro k v4 h0 h
    have e1 : zar 0 k 1 = k + 1 := by rw [za_0, zw32_i (by omega)]
    have em : zcall w (d + 1) 269 [zA 13 32 209, zI ax, zI k] σ = some (zt (ymt f g ax k 4096 0 = true), σ) := by
      rw [eX12_meets]
      rcases yst_3 ha with ⟨e, y⟩ | ⟨e, y⟩ | ⟨e, y⟩
      · rw [if_pos e]
        exact l_269 w (by omega) hf hg ha y.symm ⟨h0, by omega⟩ 4096 0 (by decide) (by decide)
      · rw [if_neg (by omega), if_pos e]
        exact l_269 w (by omega) hf hg ha y.symm ⟨h0, by omega⟩ 4096 0 (by decide) (by decide)
      · rw [if_neg (by omega), if_neg (by omega)]
        exact l_269 w (by omega) hf hg ha y.symm ⟨h0, by omega⟩ 4096 0 (by decide) (by decide)
    rw [hX12_apart_25, if_pos (by omega), em, Option.bind_some]
    dsimp only
    rw [zt_if, e1, ih _ _ (by omega) (by omega), yap]
    split <;> rfl
theorem op_33 (w : zW) (x1 x2 x3 : Int) : zOp zInv w 176 270 [zI x1, zI x2, zI x3] := by
  intro σ hI
  by_cases h : (0 ≤ x1 ∧ x1 < σ 209 1) ∧ (0 ≤ x2 ∧ x2 < σ 209 1) ∧ (0 ≤ x3 ∧ x3 ≤ 2)
  · obtain ⟨h1, h2, h3⟩ := h
    have h24 := hI.2.1.1.2.1
    have r1 := (yr_86 w (s := x1) ⟨h1.1, by omega⟩).2
    have r2 := (yr_86 w (s := x2) ⟨h2.1, by omega⟩).2
    obtain ⟨σ0, σ1, m, m', P, P', I1, E, n1⟩ := s_198b w hI h1 h2
    obtain ⟨σ2, e2, g1, g2, f2⟩ := s_264 w (d := 998) (by decide) (σ := σ1) (p := x1) (q := x2) I1.2.1.1 (by omega) (by omega)
    rw [E] at e2 g1 g2
    refine yps w (yap (zns (σ 210) x1) (zns (σ 210) x2) x3 16 0) (σ2 := σ2) I1 ((eX11_apart w 998 x1 x2 x3 σ).trans ?_) ((eX12_apart w 998 x1 x2 x3 σ1).trans ?_) (zalk_s fun a k _ _ _ _ h => f2 a k (by omega) (by omega))
    · rw [yA1 w hI, Option.bind_some]
      dsimp only
      rw [zt_if, if_pos (by omega)]
      rw [yA1 w hI, Option.bind_some]
      dsimp only
      rw [zt_if, if_pos (by omega)]
      rw [s_203, Option.bind_some]
      dsimp only
      rw [zt_if, if_pos (by omega)]
      rw [m, Option.bind_some]
      dsimp only
      rw [m', Option.bind_some]
      exact l_176 w (by decide) r1 r2 P P' h3 16 0 (by decide) (by decide)
    · rw [yB1 w I1, Option.bind_some]
      dsimp only
      rw [zt_if, if_pos (by omega)]
      rw [yB1 w I1, Option.bind_some]
      dsimp only
      rw [zt_if, if_pos (by omega)]
      rw [s_213, Option.bind_some]
      dsimp only
      rw [zt_if, if_pos (by omega)]
      rw [e2, Option.bind_some]
      exact l_270 w (by decide) g1 g2 h3 16 0 _ (by decide) (by decide)
  · refine yop (-62) (zrA σ (-62)) (zrB (zrA σ (-62)) (-62)) ((eX11_apart w 998 x1 x2 x3 σ).trans ?_) ((eX12_apart w 998 x1 x2 x3 _).trans ?_) (zref0 hI)
    · rw [yA1 w hI, Option.bind_some]
      dsimp only
      rw [zt_if]
      by_cases u0 : 0 ≤ x1 ∧ x1 < σ 209 1
      · rw [if_pos (by omega)]
        rw [yA1 w hI, Option.bind_some]
        dsimp only
        rw [zt_if]
        by_cases u1 : 0 ≤ x2 ∧ x2 < σ 209 1
        · rw [if_pos (by omega)]
          rw [s_203, Option.bind_some]
          dsimp only
          rw [zt_if]
          rw [if_neg (fun u => h ⟨u0, u1, (by omega)⟩)]
          exact ybA w σ
        · rw [if_neg (by omega)]; exact ybA w σ
      · rw [if_neg (by omega)]; exact ybA w σ
    · rw [yB1' w hI, Option.bind_some]
      dsimp only
      rw [zt_if]
      by_cases u0 : 0 ≤ x1 ∧ x1 < σ 209 1
      · rw [if_pos (by omega)]
        rw [yB1' w hI, Option.bind_some]
        dsimp only
        rw [zt_if]
        by_cases u1 : 0 ≤ x2 ∧ x2 < σ 209 1
        · rw [if_pos (by omega)]
          rw [s_213, Option.bind_some]
          dsimp only
          rw [zt_if]
          rw [if_neg (fun u => h ⟨u0, u1, (by omega)⟩)]
          exact ybB w _
        · rw [if_neg (by omega)]; exact ybB w _
      · rw [if_neg (by omega)]; exact ybB w _
/-! skin -/
def ynb (p i : Int) : Int := ymo p (i / 2) (if i % 2 = 0 then -1 else 1)
def yng (p i : Int) : Int := ymo p (i / 2) (if i % 2 = 0 then 1 else -1)
def yany (f : Int → Bool) : Nat → Int → Bool
  | 0, _ => false
  | m + 1, k => f k || yany f m (k + 1)
theorem s_134 (w : zW) {d : Nat} (hd : 3 ≤ d) {p i : Int} (hi : 0 ≤ i ∧ i < 6) (σ : zMem) : zcall w d 134 [zI p, zI i] σ = some (ynb p i, σ) := by
  obtain ⟨d, rfl⟩ : ∃ e, d = e + 1 := ⟨d - 1, by omega⟩
  have e1 : zar 4 i 2 = i % 2 := by rw [za_4, Int.tmod_eq_emod_of_nonneg hi.1]
  have e2 : zar 3 i 2 = i / 2 := by rw [za_3, Int.tdiv_eq_ediv_of_nonneg hi.1, zw32_i (by omega)]
  rw [eX10_neighbour, e1, e2, ynb]
  by_cases c : i % 2 = 0
  · rw [if_pos c, if_pos c, s_211 w (by omega) (by omega) (by decide)]; rfl
  · rw [if_neg c, if_neg c, s_211 w (by omega) (by omega) (by decide)]; rfl
theorem s_258 (w : zW) {d : Nat} (hd : 2 ≤ d) {p i : Int} (hp : 0 ≤ p ∧ p < 4096) (hi : 0 ≤ i ∧ i < 6) (σ : zMem) : zcall w d 258 [zI p, zI i] σ = some (yng p i, σ) := by
  obtain ⟨d, rfl⟩ : ∃ e, d = e + 1 := ⟨d - 1, by omega⟩
  have e1 : zar 4 i 2 = i % 2 := by rw [za_4, Int.tmod_eq_emod_of_nonneg hi.1]
  have e2 : zar 3 i 2 = i / 2 := by rw [za_3, Int.tdiv_eq_ediv_of_nonneg hi.1, zw32_i (by omega)]
  have z := zon_b (ax := i / 2) hp
  have a1 : zar 0 (zon p (i / 2)) 1 = zon p (i / 2) + 1 := by rw [za_0, zw32_i (by omega)]
  have a2 : zar 0 (zon p (i / 2)) (-1) = zon p (i / 2) - 1 := by rw [za_0, zw32_i (by omega)]; omega
  have n5 : ∀ s : Int, (s = 256 ∨ s = 16 ∨ s = 1) → zar 0 p s = p + s ∧ zar 0 p (zar 5 s 0) = p - s := by
    intro s hs
    refine ⟨by rw [za_0, zw32_i (by omega)], ?_⟩
    rw [za_5, zw32_i (by omega), za_0, zw32_i (by omega)]; omega
  have main : ∀ s : Int, (s = 256 ∨ s = 16 ∨ s = 1) → yst (i / 2) = s → ((zcall w d 254 [zI p, zI (i / 2)] σ).bind fun r1 => if i % 2 = 0 then (zcall w d 213 [zJ (zar 0 r1.1 1), zJ 0, zJ 15] r1.2).bind fun r2 => if r2.1 = 0 then some ((-1 : Int), r2.2) else if i % 2 = 0 then some (zar 0 p s, r2.2) else some (zar 0 p (zar 5 s 0), r2.2)
      else (zcall w d 213 [zJ (zar 0 r1.1 (-1)), zJ 0, zJ 15] r1.2).bind fun r3 => if r3.1 = 0 then some (-1, r3.2) else if i % 2 = 0 then some (zar 0 p s, r3.2) else some (zar 0 p (zar 5 s 0), r3.2)) = some (yng p i, σ) := by
    intro s hs hy
    rw [s_254 w (by omega) hp, Option.bind_some]
    dsimp only
    rw [a1, a2, (n5 s hs).1, (n5 s hs).2, yng]
    by_cases c : i % 2 = 0
    · rw [if_pos c, if_pos c, s_213, Option.bind_some]
      dsimp only
      rw [zt_if, ymo, hy]
      by_cases g : 0 ≤ zon p (i / 2) + 1 ∧ zon p (i / 2) + 1 ≤ 15
      · rw [if_pos g, if_pos c, if_pos ⟨hp, g⟩, Int.one_mul]
      · rw [if_neg g, if_neg (fun u => g u.2)]
    · rw [if_neg c, if_neg c, s_213, Option.bind_some]
      dsimp only
      rw [zt_if, ymo, hy]
      by_cases g : 0 ≤ zon p (i / 2) - 1 ∧ zon p (i / 2) - 1 ≤ 15
      · rw [if_pos g, if_neg c, if_pos ⟨hp, by omega⟩]
        rcases hs with rfl | rfl | rfl <;> rfl
      · rw [if_neg g, if_neg (fun u => g (by omega))]
  rw [eX12_neighbour, e1, e2]
  rcases yst_3 (ax := i / 2) (by omega) with ⟨e, f⟩ | ⟨e, f⟩ | ⟨e, f⟩
  · rw [if_pos (by omega)]; exact main 256 (by decide) f
  · rw [if_neg (by omega), if_pos (by omega)]; exact main 16 (by decide) f
  · rw [if_neg (by omega), if_neg (by omega)]; exact main 1 (by decide) f
def ybare (g : Int → Bool) (p : Int) : Bool := yany (fun i => !(yvl g (ynb p i))) 6 0
theorem ybare_r (g : Int → Bool) (p : Int) : yany (fun i => !(yvl g (yng p i))) 6 0 = ybare g p := by
  have a : ∀ i j : Int, ((i = 0 ∧ j = 1) ∨ (i = 1 ∧ j = 0) ∨ (i = 2 ∧ j = 3) ∨ (i = 3 ∧ j = 2) ∨ (i = 4 ∧ j = 5) ∨ (i = 5 ∧ j = 4)) → yng p i = ynb p j := by
    intro i j h
    rcases h with ⟨rfl, rfl⟩ | ⟨rfl, rfl⟩ | ⟨rfl, rfl⟩ | ⟨rfl, rfl⟩ | ⟨rfl, rfl⟩ | ⟨rfl, rfl⟩ <;> rfl
  unfold ybare
  show ((!(yvl g (yng p 0))) || ((!(yvl g (yng p 1))) || ((!(yvl g (yng p 2))) || ((!(yvl g (yng p 3))) || ((!(yvl g (yng p 4))) || ((!(yvl g (yng p 5))) || false)))))) = ((!(yvl g (ynb p 0))) || ((!(yvl g (ynb p 1))) || ((!(yvl g (ynb p 2))) || ((!(yvl g (ynb p 3))) || ((!(yvl g (ynb p 4))) || ((!(yvl g (ynb p 5))) || false))))))
  rw [a 0 1 (by decide), a 1 0 (by decide), a 2 3 (by decide), a 3 2 (by decide), a 4 5 (by decide), a 5 4 (by decide)]
  generalize yvl g (ynb p 0) = b0
  generalize yvl g (ynb p 1) = b1
  generalize yvl g (ynb p 2) = b2
  generalize yvl g (ynb p 3) = b3
  generalize yvl g (ynb p 4) = b4
  generalize yvl g (ynb p 5) = b5
  revert b0 b1 b2 b3 b4 b5
  decide
theorem l_133 (w : zW) {d : Nat} (hd : 3 ≤ d) {a o p : Int} {g : Int → Bool} {σ : zMem} (ro : zR w a 0 = o) (P : zPS σ o g) : ∀ (m : Nat) (k : Int), 0 ≤ k → k + m = 6 →
    zden w (d + 1) 133 2 [zA 6 1 a, zI p, zI k] [] σ = some (zt (yany (fun i => !(yvl g (ynb p i))) m k = true), σ) := by
  intro m
  induction m with
  | zero => intro k h0 h; rw [kX10_isBare_2, if_neg (by omega)]; rfl
  | succ m ih =>
    intro k h0 h
    have e1 : zar 0 k 1 = k + 1 := by rw [za_0, zw32_i (by omega)]
    rw [kX10_isBare_2, if_pos (by omega), s_134 w hd (by omega), Option.bind_some]
    dsimp only
    rw [s_49g w (by omega) ro P, Option.bind_some]
    dsimp only
    rw [zt_if, e1, ih _ (by omega) (by omega), yany]
    by_cases c : yvl g (ynb p k) = true
    · rw [if_pos c, c]; rfl
    · rw [if_neg c, Bool.eq_false_iff.2 c]; rfl
theorem s_132 (w : zW) {d : Nat} (hd : 5 ≤ d) {a o : Int} {g : Int → Bool} {σ : zMem} (ro : zR w a 0 = o) (P : zPS σ o g) : zcall w d 132 [zA 11 8 169, zA 6 1 a] σ = some ((yct (fun p => g p && ybare g p) 4096 : Int), σ) := by
  obtain ⟨d, rfl⟩ : ∃ e, d = e + 1 + 1 := ⟨d - 2, by omega⟩
  have main : ∀ (m k : Nat), k + m = 4096 → zden w (d + 1 + 1) 132 4 [zA 11 8 169, zA 6 1 a, zI (yct (fun p => g p && ybare g p) k : Nat), zI (k : Int)] [] σ = some ((yct (fun p => g p && ybare g p) 4096 : Int), σ) := by
    intro m
    induction m with
    | zero =>
      intro k h
      have : k = 4096 := by omega
      subst this
      rw [hX10_skinOf_4, if_neg (by omega)]
    | succ m ih =>
      intro k h
      have b := yct_le (fun p => g p && ybare g p) k
      have e1 : zar 0 (k : Int) 1 = ((k + 1 : Nat) : Int) := by rw [za_0, zw32_i (by omega)]; omega
      have i2 := ih (k + 1) (by omega)
      rw [yct_s] at i2
      have kr : (0 : Int) ≤ (k : Int) ∧ (k : Int) < 4096 := by omega
      rw [hX10_skinOf_4, if_pos kr.2, s_49g w (by omega) ro P, Option.bind_some]
      dsimp only
      rw [zt_if, yvl_p kr, e1]
      by_cases c : g k = true
      · rw [if_pos c, eX10_isBare, l_133 w (by omega) ro P 6 0 (by decide) (by decide), Option.bind_some]
        dsimp only
        rw [zt_if]
        by_cases c2 : yany (fun i => !(yvl g (ynb k i))) 6 0 = true
        · rw [if_pos c2, za_0, zw32_i (by omega)]
          rw [if_pos (show (g k && ybare g k) = true by rw [c, Bool.true_and]; exact c2)] at i2
          exact i2
        · rw [if_neg c2]
          rw [if_neg (show ¬ (g k && ybare g k) = true by rw [c, Bool.true_and]; exact c2)] at i2
          exact i2
      · rw [if_neg c]
        rw [if_neg (show ¬ (g k && ybare g k) = true by rw [Bool.and_eq_true]; exact fun u => c u.1)] at i2
        exact i2
  rw [eX10_skinOf]
  exact main 4096 0 rfl
theorem l_259 (w : zW) {d : Nat} (hd : 2 ≤ d) {o p n : Int} {g : Int → Bool} {σ : zMem} (ho : 0 ≤ o ∧ o < 4) (hs : ∀ p : Int, 0 ≤ p → p < 4096 → σ (215 + o) p = zt (g p = true)) (hp : 0 ≤ p ∧ p < 4096) (hg : g p = true) : ∀ (m : Nat) (k : Int) (b : Bool) (v6 : zV), 0 ≤ k → k + m = 6 →
    ∃ x5 v6', zden w (d + 1) 259 11 [zA 13 32 209, zI o, zI n, zI p, zI (zt (b = true)), zI k, v6] [] σ = if (b || yany (fun i => !(yvl g (yng p i))) m k) = true then zden w (d + 1) 259 4 [zA 13 32 209, zI o, zI (zar 0 n 1), zI (zar 0 p 1), zI 1, zI x5, v6'] [] σ else zden w (d + 1) 259 4 [zA 13 32 209, zI o, zI (zar 0 n 0), zI (zar 0 p 1), zI 0, zI x5, v6'] [] σ := by
  have ro := yr_214 w ho
  intro m
  induction m with
  | zero =>
    intro k b v6 h0 h
    refine ⟨k, v6, ?_⟩
    rw [hX12_skinOf_11, if_pos ho, if_pos hp, ro, hs p hp.1 hp.2, zt_if, if_pos hg, if_neg (by omega), zt_if, yany, Bool.or_false]
    cases b <;> rfl
  | succ m ih =>
    intro k b v6 h0 h
    have e1 : zar 0 k 1 = k + 1 := by rw [za_0, zw32_i (by omega)]
    have o1 : zar 7 (zt (b = true)) 1 = zt (true = true) ∧ zar 7 (zt (b = true)) 0 = zt (b = true) := by
      cases b
      · exact ⟨by rw [za_7]; rfl, by rw [za_7]; rfl⟩
      · exact ⟨by rw [za_7]; rfl, by rw [za_7]; rfl⟩
    have nb : yng p k = -1 ∨ (0 ≤ yng p k ∧ yng p k < 4096) := ymo_b (by omega)
    rw [hX12_skinOf_11, if_pos ho, if_pos hp, ro, hs p hp.1 hp.2, zt_if, if_pos hg, if_pos (by omega), s_258 w hd hp (by omega), Option.bind_some]
    dsimp only
    rw [e1, yany]
    by_cases c : yng p k < 0
    · have e : yvl g (yng p k) = false := by unfold yvl; rw [decide_eq_false (by omega), Bool.false_and]
      obtain ⟨x5, v6', q⟩ := ih (k + 1) true (zI (yng p k)) (by omega) (by omega)
      refine ⟨x5, v6', ?_⟩
      rw [if_pos c, o1.1, q, e]
      simp only [Bool.not_false, Bool.true_or, Bool.or_true]
    · have v : 0 ≤ yng p k ∧ yng p k < 4096 := by omega
      rw [if_neg c, if_pos ho, if_pos v, yvl_p v]
      simp only [hs _ v.1 v.2, zt_if]
      by_cases c2 : g (yng p k) = true
      · obtain ⟨x5, v6', q⟩ := ih (k + 1) b (zI (yng p k)) (by omega) (by omega)
        refine ⟨x5, v6', ?_⟩
        rw [if_pos c2, o1.2, q, c2]
        simp only [Bool.not_true, Bool.false_or]
      · obtain ⟨x5, v6', q⟩ := ih (k + 1) true (zI (yng p k)) (by omega) (by omega)
        refine ⟨x5, v6', ?_⟩
        rw [if_neg c2, o1.1, q, Bool.eq_false_iff.2 c2]
        simp only [Bool.not_false, Bool.true_or, Bool.or_true]
theorem s_259 (w : zW) {d : Nat} (hd : 3 ≤ d) {o : Int} {g : Int → Bool} {σ : zMem} (ho : 0 ≤ o ∧ o < 4) (hs : ∀ p : Int, 0 ≤ p → p < 4096 → σ (215 + o) p = zt (g p = true)) : zcall w d 259 [zA 13 32 209, zI o] σ = some ((yct (fun p => g p && ybare g p) 4096 : Int), σ) := by
  obtain ⟨d, rfl⟩ : ∃ e, d = e + 1 := ⟨d - 1, by omega⟩
  have ro := yr_214 w ho
  have main : ∀ (m k : Nat) (v4 v5 v6 : zV), k + m = 4096 → zden w (d + 1) 259 4 [zA 13 32 209, zI o, zI (yct (fun p => g p && ybare g p) k : Nat), zI (k : Int), v4, v5, v6] [] σ = some ((yct (fun p => g p && ybare g p) 4096 : Int), σ) := by
    intro m
    induction m with
    | zero =>
      intro k v4 v5 v6 h
      have : k = 4096 := by omega
      subst this
      rw [hX12_skinOf_4, if_neg (by omega)]
    | succ m ih =>
      intro k v4 v5 v6 h
      have b := yct_le (fun p => g p && ybare g p) k
      have e1 : zar 0 (k : Int) 1 = ((k + 1 : Nat) : Int) := by rw [za_0, zw32_i (by omega)]; omega
      have kr : (0 : Int) ≤ (k : Int) ∧ (k : Int) < 4096 := by omega
      have n1 : zar 0 (yct (fun p => g p && ybare g p) k : Int) 1 = ((yct (fun p => g p && ybare g p) k + 1 : Nat) : Int) := by rw [za_0, zw32_i (by omega)]; rfl
      have n0 : zar 0 (yct (fun p => g p && ybare g p) k : Int) 0 = ((yct (fun p => g p && ybare g p) k + 0 : Nat) : Int) := by rw [za_0, zw32_i (by omega)]; rfl
      rw [hX12_skinOf_4, if_pos kr.2]
      by_cases c : g k = true
      · obtain ⟨x5, v6', q⟩ := l_259 w (d := d) (by omega) (n := (yct (fun p => g p && ybare g p) k : Int)) ho hs kr c 6 0 false v6 (by decide) (by decide)
        rw [Bool.false_or, ybare_r] at q
        refine q.trans ?_
        rw [n1, n0, e1]
        by_cases c2 : ybare g k = true
        · have i2 := ih (k + 1) (zI 1) (zI x5) v6' (by omega)
          rw [yct_s, if_pos (show (g k && ybare g k) = true by rw [c, Bool.true_and]; exact c2)] at i2
          rw [if_pos c2]
          exact i2
        · have i2 := ih (k + 1) (zI 0) (zI x5) v6' (by omega)
          rw [yct_s, if_neg (show ¬ (g k && ybare g k) = true by rw [c, Bool.true_and]; exact c2)] at i2
          rw [if_neg c2]
          exact i2
      · have i2 := ih (k + 1) (zI 0) (zI 0) v6 (by omega)
        rw [yct_s, if_neg (show ¬ (g k && ybare g k) = true by rw [Bool.and_eq_true]; exact fun u => c u.1)] at i2
        rw [hX12_skinOf_11, if_pos ho, if_pos kr, ro, hs _ kr.1 kr.2, zt_if, if_neg c, if_pos rfl, n0, e1]
        exact i2
  rw [eX12_skinOf]
  exact main 4096 0 zU zU zU rfl
theorem op_28 (w : zW) (x1 : Int) : zOp zInv w 171 262 [zI x1] := by
  intro σ hI
  by_cases h : 0 ≤ x1 ∧ x1 < σ 209 1
  · have h1 := h
    have h24 := hI.2.1.1.2.1
    have r2 := (yr_86 w (s := x1) ⟨h1.1, by omega⟩).2
    obtain ⟨σ1, m, P, I1, E, n1, -⟩ := s_198 w (d := 998) (by decide) hI h1.1 h1.2
    have e3 := s_249 w (d := 998) (by decide) (σ := σ1) (n := σ1 209 1) (o := 0) (s := x1) (by decide) I1.2.1.1 h1.1 (by omega)
    rw [E] at e3
    have e4 := s_259 w (d := 998) (by decide) (o := 0) (g := zns (σ 210) x1) (σ := yfm (215 + 0) (fun p => zt (zns (σ 210) x1 p = true)) 0 4096 σ1) (by decide) (fun p a b => yfm_t (by omega))
    refine yps w ((yct (fun p => zns (σ 210) x1 p && ybare (zns (σ 210) x1) p) 4096 : Int)) (σ2 := yfm (215 + 0) (fun p => zt (zns (σ 210) x1 p = true)) 0 4096 σ1) I1 ((eX11_skin w 998 x1 σ).trans ?_) ((eX12_skin w 998 x1 σ1).trans ?_) (yfm_alk (by decide))
    · rw [yA1 w hI, Option.bind_some]
      dsimp only
      rw [zt_if, if_pos (by omega)]
      rw [m, Option.bind_some]
      dsimp only
      rw [s_132 w (by decide) r2 P]
      rfl
    · rw [yB1 w I1, Option.bind_some]
      dsimp only
      rw [zt_if, if_pos (by omega)]
      rw [e3, Option.bind_some]
      dsimp only
      rw [e4]
      rfl
  · refine yop (-62) (zrA σ (-62)) (zrB (zrA σ (-62)) (-62)) ((eX11_skin w 998 x1 σ).trans ?_) ((eX12_skin w 998 x1 _).trans ?_) (zref0 hI)
    · rw [yA1 w hI, Option.bind_some]
      dsimp only
      rw [zt_if]
      rw [if_neg h]
      exact ybA w σ
    · rw [yB1' w hI, Option.bind_some]
      dsimp only
      rw [zt_if]
      rw [if_neg h]
      exact ybB w _
end
