section
/-! A new shape: what both write, and that all stays true -/
theorem yTb_lo {n : Int} {σ σ' : zMem} {T : Int → Int} (hn : n ≤ 24) (h7 : σ' 2 7 = σ 2 7) (h : ∀ a k, 3 ≤ a → a ≤ 8 → 0 ≤ k → k < n → σ' a k = σ a k) (h9 : ∀ k, 0 ≤ k → k < 6 * n → σ' 9 k = σ 9 k) (t : zTb 2 σ T n) : zTb 2 σ' T n := by
  refine ⟨h7.trans t.1, fun s a b => ?_⟩
  obtain ⟨u1, u2, u3, u4, u5, u6, u7⟩ := t.2 s a b
  refine ⟨(h _ _ (by decide) (by decide) a b).trans u1, (h _ _ (by decide) (by decide) a b).trans u2, (h _ _ (by decide) (by decide) a b).trans u3, (h _ _ (by decide) (by decide) a b).trans u4, (h _ _ (by decide) (by decide) a b).trans u5, (h _ _ (by decide) (by decide) a b).trans u6, fun k c d => ?_⟩
  have := zno_b6 (T (11 * s))
  exact (h9 _ (by omega) (by omega)).trans (u7 k c d)
theorem zsolN_f {T : Int → Int} {n : Int} (t : zWF T n) : ∀ (f g : Nat) (s : Int), 0 ≤ s → s < n → T (11 * s + 3) < f → T (11 * s + 3) < g → zsolN T f s = zsolN T g s := by
  intro f
  induction f with
  | zero => intro g s a b h; have := (t.2.2 s a b).2.1; omega
  | succ f ih =>
    intro g s a b h k
    cases g with
    | zero => have := (t.2.2 s a b).2.1; omega
    | succ g =>
      have q := t.2.2 s a b
      rw [zsolN, zsolN]
      rcases yWS q with c | c | c
      · rw [if_pos (by omega), if_pos (by omega)]
      · obtain ⟨c1, c2, c3, c4, c5, c6, -⟩ := c
        rw [if_neg (by omega), if_neg (by omega), ih g _ c3.1 (by omega) (by omega) (by omega), if_neg (by omega), if_neg (by omega), ih g _ c4.1 (by omega) (by omega) (by omega)]
      · obtain ⟨c1, c2, c3, c4, c5, c6⟩ := c
        rw [if_neg (by omega), if_pos (by omega), if_neg (by omega), if_pos (by omega), ih g _ c3.1 (by omega) (by omega) (by omega)]
theorem zsolN_b {T : Int → Int} : ∀ (f : Nat) (s : Int), 0 ≤ zsolN T f s ∧ zsolN T f s ≤ 2 ^ f := by
  intro f
  induction f with
  | zero => intro s; exact ⟨Int.le_refl _, by show (0 : Int) ≤ 1; decide⟩
  | succ f ih =>
    intro s
    have a := ih (T (11 * s + 1))
    have b := ih (T (11 * s + 2))
    have e : (2 : Int) ^ (f + 1) = 2 * 2 ^ f := by rw [Int.pow_succ]; omega
    have p : (1 : Int) ≤ 2 ^ f := by
      have : (0 : Int) < 2 ^ f := Int.pow_pos (by decide)
      omega
    rw [zsolN]
    split
    · omega
    · split <;> omega
/-- how many solids a new shape has -/
def yso (T : Int → Int) (k p q : Int) : Int := if k ≤ 5 then 1 else zsolN T 7 p + (if q < 0 then 0 else zsolN T 7 q)
theorem l_122 (w : zW) (d : Nat) {n : Int} (hn : 0 ≤ n ∧ n < 24) {v2 v3 v4 : zV} : ∀ (m : Nat) (i : Int) (σ : zMem), 0 ≤ i → i + m = 6 →
    ∃ σ', zden w (d + 1) 122 57 [zA 10 8 2, zI n, v2, v3, v4, zA 20 6 206, zI i] [] σ = some (0, σ') ∧ (∀ t, i ≤ t → t < 6 → σ' 9 (6 * n + t) = σ 206 t) ∧ ∀ a t, (a ≠ 9 ∨ t < 6 * n + i ∨ 6 * n + 6 ≤ t) → σ' a t = σ a t := by
  have r9 : zR w 2 6 = 9 := rfl
  intro m
  induction m with
  | zero =>
    intro i σ h0 h
    rw [hX9_write_57, if_neg (by omega)]
    exact ⟨σ, rfl, fun t a b => by omega, fun _ _ _ => rfl⟩
  | succ m ih =>
    intro i σ h0 h
    have e1 : zar 0 i 1 = i + 1 := by rw [za_0, zw32_i (by omega)]
    have e2 : zar 0 (zar 2 n 6) i = 6 * n + i := by rw [za_2, zw32_i (by omega), za_0, zw32_i (by omega)]; omega
    obtain ⟨σ', k1, k2, k3⟩ := ih (i + 1) (zup σ 9 (6 * n + i) (σ 206 i)) (by omega) (by omega)
    rw [hX9_write_57, if_pos (by omega), if_pos (by omega), if_pos (by omega), e2, if_pos (by omega), e1, r9, k1]
    refine ⟨σ', rfl, fun t a b => ?_, fun a t u => ?_⟩
    · by_cases c : t = i
      · rw [c, k3 _ _ (by omega), zup_t ⟨rfl, rfl, by decide⟩]
      · rw [k2 t (by omega) b, zup_f (by omega)]
    · rw [k3 _ _ (by omega), zup_f (by omega)]
theorem s_122 (w : zW) {d : Nat} (hd : 2 ≤ d) {T : Int → Int} {n k p q : Int} {σ : zMem} (hT : zWF T n) (hn : n < 24) (hTb : zTb 2 σ T n) (h : ypq n k p q) :
    ∃ σ', zcall w d 122 [zA 10 8 2, zI n, zI k, zI p, zI q, zA 20 6 206] σ = some (0, σ') ∧ σ' 3 n = k ∧ σ' 4 n = p ∧ σ' 5 n = q ∧ σ' 6 n = ydp T k p q ∧ σ' 7 n = ybd T k p q ∧ σ' 8 n = yso T k p q ∧ (∀ t, 0 ≤ t → t < 6 → σ' 9 (6 * n + t) = σ 206 t)
      ∧ (∀ a t, ¬ (3 ≤ a ∧ a ≤ 9) → σ' a t = σ a t) ∧ (∀ a t, 3 ≤ a → a ≤ 8 → t ≠ n → σ' a t = σ a t) ∧ ∀ t, t < 6 * n → σ' 9 t = σ 9 t := by
  obtain ⟨d, rfl⟩ : ∃ e, d = e + 1 := ⟨d - 1, by omega⟩
  have h0 := hT.1
  have b := ydp_b hT h
  have r3 : zR w 2 0 = 3 := rfl
  have r4 : zR w 2 1 = 4 := rfl
  have r5 : zR w 2 2 = 5 := rfl
  have r6 : zR w 2 3 = 6 := rfl
  have r7 : zR w 2 4 = 7 := rfl
  have r8 : zR w 2 5 = 8 := rfl
  obtain ⟨μ1, hμ1⟩ : ∃ μ1, μ1 = zup (zup (zup σ 3 n k) 4 n p) 5 n q := ⟨_, rfl⟩
  have f1 : ∀ a t, (a < 3 ∨ 5 < a ∨ t ≠ n) → μ1 a t = σ a t := fun a t u => by rw [hμ1, zup_f (by omega), zup_f (by omega), zup_f (by omega)]
  have t1 : zTb 2 μ1 T n := yTb_lo (by omega) (f1 _ _ (by omega)) (fun a k x y z u => f1 a k (by omega)) (fun k x y => f1 _ _ (by omega)) hTb
  have e1 := (s_120 w (d := d) (by omega) hT t1 h).1
  obtain ⟨μ2, hμ2⟩ : ∃ μ2, μ2 = zup μ1 6 n (ydp T k p q) := ⟨_, rfl⟩
  have f2 : ∀ a t, (a ≠ 6 ∨ t ≠ n) → μ2 a t = μ1 a t := fun a t u => by rw [hμ2, zup_f (by omega)]
  have t2 : zTb 2 μ2 T n := yTb_lo (by omega) (f2 _ _ (by omega)) (fun a k x y z u => f2 a k (by omega)) (fun k x y => f2 _ _ (by omega)) t1
  have e2 := (s_120 w (d := d) (by omega) hT t2 h).2
  obtain ⟨μ3, hμ3⟩ : ∃ μ3, μ3 = zup μ2 7 n (ybd T k p q) := ⟨_, rfl⟩
  have f3 : ∀ a t, (a ≠ 7 ∨ t ≠ n) → μ3 a t = μ2 a t := fun a t u => by rw [hμ3, zup_f (by omega)]
  have t3 : zTb 2 μ3 T n := yTb_lo (by omega) (f3 _ _ (by omega)) (fun a k x y z u => f3 a k (by omega)) (fun k x y => f3 _ _ (by omega)) t2
  obtain ⟨μ4, hμ4⟩ : ∃ μ4, μ4 = zup μ3 8 n (yso T k p q) := ⟨_, rfl⟩
  have f4 : ∀ a t, (a ≠ 8 ∨ t ≠ n) → μ4 a t = μ3 a t := fun a t u => by rw [hμ4, zup_f (by omega)]
  obtain ⟨σ', k1, k2, k3⟩ := l_122 w d ⟨h0, hn⟩ (v2 := zI k) (v3 := zI p) (v4 := zI q) 6 0 μ4 (by decide) (by decide)
  have F : ∀ a t, ¬ (3 ≤ a ∧ a ≤ 9) → μ4 a t = σ a t := fun a t u => by rw [f4 _ _ (by omega), f3 _ _ (by omega), f2 _ _ (by omega), f1 _ _ (by omega)]
  have G : ∀ a t, t ≠ n → μ4 a t = σ a t := fun a t u => by rw [f4 _ _ (by omega), f3 _ _ (by omega), f2 _ _ (by omega), f1 _ _ (by omega)]
  refine ⟨σ', ?_, ?_, ?_, ?_, ?_, ?_, ?_, fun t x y => ?_, fun a t u => ?_, fun a t u v x => ?_, fun t u => ?_⟩
  · rw [eX9_write, if_neg (by omega), if_pos (by omega), if_pos (by omega), if_pos (by omega), if_pos (by omega), r3, r4, r5, r6, r7, r8, ← hμ1, e1, Option.bind_some]
    dsimp only
    rw [if_pos (by omega), ← hμ2, e2, Option.bind_some]
    dsimp only
    rw [if_pos (by omega), ← hμ3, s_27, Option.bind_some]
    dsimp only
    rw [zt_if]
    by_cases ck : k ≤ 5
    · have es : yso T k p q = 1 := if_pos ck
      rw [es] at hμ4
      rw [if_pos (by unfold ypq at h; omega), if_pos (by omega), ← hμ4]
      exact k1
    · have hp : p = -1 ∨ (0 ≤ p ∧ p < n) := by unfold ypq at h; omega
      have hq : q = -1 ∨ (0 ≤ q ∧ q < n) := by unfold ypq at h; omega
      have hp0 : ¬ p < 0 := by unfold ypq at h; omega
      have es : yso T k p q = zsolN T 7 p + (if q < 0 then 0 else zsolN T 7 q) := if_neg ck
      have bp := zsolN_b (T := T) 7 p
      have bq := zsolN_b (T := T) 7 q
      have p7 : (2 : Int) ^ 7 = 128 := rfl
      rw [es] at hμ4
      rw [if_neg (by omega), (s_115 w d hT t3 hp).2.2, Option.bind_some]
      dsimp only
      rw [(s_115 w d hT t3 hq).2.2, Option.bind_some]
      dsimp only
      have hm : zar 0 (if p < 0 then 0 else zsolN T 7 p) (if q < 0 then 0 else zsolN T 7 q) = zsolN T 7 p + (if q < 0 then 0 else zsolN T 7 q) := by
        rw [if_neg hp0, za_0, zw32_i (by split <;> omega)]
      rw [if_pos (by omega), hm, ← hμ4]
      exact k1
  · rw [k3 _ _ (by omega), f4 _ _ (by omega), f3 _ _ (by omega), f2 _ _ (by omega), hμ1, zup_f (by omega), zup_f (by omega), zup_t ⟨rfl, rfl, by decide⟩]
  · rw [k3 _ _ (by omega), f4 _ _ (by omega), f3 _ _ (by omega), f2 _ _ (by omega), hμ1, zup_f (by omega), zup_t ⟨rfl, rfl, by decide⟩]
  · rw [k3 _ _ (by omega), f4 _ _ (by omega), f3 _ _ (by omega), f2 _ _ (by omega), hμ1, zup_t ⟨rfl, rfl, by decide⟩]
  · rw [k3 _ _ (by omega), f4 _ _ (by omega), f3 _ _ (by omega), hμ2, zup_t ⟨rfl, rfl, by decide⟩]
  · rw [k3 _ _ (by omega), f4 _ _ (by omega), hμ3, zup_t ⟨rfl, rfl, by decide⟩]
  · rw [k3 _ _ (by omega), hμ4, zup_t ⟨rfl, rfl, by decide⟩]
  · rw [k2 t x y, F _ _ (by omega)]
  · rw [k3 _ _ (by omega), F _ _ u]
  · rw [k3 _ _ (by omega), G _ _ x]
  · rw [k3 _ _ (by omega)]
    rw [f4 _ _ (by omega), f3 _ _ (by omega), f2 _ _ (by omega), f1 _ _ (by omega)]
theorem l_281 (w : zW) (d : Nat) {n k : Int} (hn : 0 ≤ n ∧ n < 24) {v2 v3 v4 v5 : zV} : ∀ (m : Nat) (i : Int) (σ : zMem), 0 ≤ i → i + m = 6 →
    ∃ σ', zden w (d + 1) 281 42 [zA 13 32 209, zI k, v2, v3, v4, v5, zA 20 6 221, zI 0, zI n, zI (11 * n), zI i] [] σ = some (n, σ') ∧ (∀ t, i ≤ t → t < 6 → σ' 210 (11 * n + 5 + t) = if t < zno k then σ 221 t else 0) ∧ σ' 209 1 = n + 1 ∧ ∀ a t, (a ≠ 210 ∨ t < 11 * n + 5 + i ∨ 11 * n + 11 ≤ t) → (a ≠ 209 ∨ t ≠ 1) → σ' a t = σ a t := by
  intro m
  induction m with
  | zero =>
    intro i σ h0 h
    have e1 : zar 0 n 1 = n + 1 := by rw [za_0, zw32_i (by omega)]
    rw [hX12_comes_42, if_neg (by omega), e1]
    exact ⟨_, rfl, fun t a b => by omega, zup_t ⟨rfl, rfl, by decide⟩, fun a t u v => zup_f (by omega)⟩
  | succ m ih =>
    intro i σ h0 h
    have e1 : zar 0 i 1 = i + 1 := by rw [za_0, zw32_i (by omega)]
    have e0 : zar 0 0 i = i := by rw [za_0, zw32_i (by omega)]; omega
    have e2 : zar 0 (zar 0 (11 * n) 5) i = 11 * n + 5 + i := by rw [za_0 (11 * n) 5, zw32_i (by omega), za_0, zw32_i (by omega)]
    have st : ∀ v : Int, (v = if i < zno k then σ 221 i else 0) → ∃ σ', zden w (d + 1) 281 42 [zA 13 32 209, zI k, v2, v3, v4, v5, zA 20 6 221, zI 0, zI n, zI (11 * n), zI (i + 1)] [] (zup σ 210 (11 * n + 5 + i) v) = some (n, σ') ∧ (∀ t, i ≤ t → t < 6 → σ' 210 (11 * n + 5 + t) = if t < zno k then σ 221 t else 0) ∧ σ' 209 1 = n + 1 ∧ ∀ a t, (a ≠ 210 ∨ t < 11 * n + 5 + i ∨ 11 * n + 11 ≤ t) → (a ≠ 209 ∨ t ≠ 1) → σ' a t = σ a t := by
      intro v hv
      obtain ⟨σ', k1, k2, k2', k3⟩ := ih (i + 1) (zup σ 210 (11 * n + 5 + i) v) (by omega) (by omega)
      refine ⟨σ', k1, fun t a b => ?_, k2', fun a t u v => ?_⟩
      · by_cases c : t = i
        · rw [c, k3 _ _ (by omega) (by omega), zup_t ⟨rfl, rfl, by decide⟩, hv]
        · rw [k2 t (by omega) b, zup_f (by omega)]
      · rw [k3 _ _ (by omega) v, zup_f (by omega)]
    rw [hX12_comes_42, if_pos (by omega), s_276, Option.bind_some]
    dsimp only
    rw [e0, e1, e2]
    by_cases c : i < zno k
    · rw [if_pos c, if_pos (by omega), if_pos (by omega)]
      exact st _ (by rw [if_pos c])
    · rw [if_neg c, if_pos (by omega)]
      exact st _ (by rw [if_neg c])
theorem s_281 (w : zW) {d : Nat} (hd : 1 ≤ d) {n k p q de bl : Int} {σ : zMem} (hn : 0 ≤ n ∧ n < 24) (e : σ 209 1 = n) :
    ∃ σ', zcall w d 281 [zA 13 32 209, zI k, zI p, zI q, zI de, zI bl, zA 20 6 221, zI 0] σ = some (n, σ') ∧ σ' 210 (11 * n) = k ∧ σ' 210 (11 * n + 1) = p ∧ σ' 210 (11 * n + 2) = q ∧ σ' 210 (11 * n + 3) = de ∧ σ' 210 (11 * n + 4) = bl ∧ (∀ t, 0 ≤ t → t < zno k → σ' 210 (11 * n + 5 + t) = σ 221 t)
      ∧ σ' 209 1 = n + 1 ∧ (∀ t, t < 11 * n → σ' 210 t = σ 210 t) ∧ ∀ a t, a ≠ 210 → (a ≠ 209 ∨ t ≠ 1) → σ' a t = σ a t := by
  obtain ⟨d, rfl⟩ : ∃ e, d = e + 1 := ⟨d - 1, by omega⟩
  have m0 : zar 2 11 n = 11 * n := by rw [za_2, zw32_i (by omega)]
  have m1 : ∀ t : Int, 0 ≤ t → t < 11 → zar 0 (11 * n) t = 11 * n + t := fun t a b => by rw [za_0, zw32_i (by omega)]
  obtain ⟨μ, hμ⟩ : ∃ μ, μ = zup (zup (zup (zup (zup σ 210 (11 * n) k) 210 (11 * n + 1) p) 210 (11 * n + 2) q) 210 (11 * n + 3) de) 210 (11 * n + 4) bl := ⟨_, rfl⟩
  have f : ∀ a t, (a ≠ 210 ∨ t < 11 * n ∨ 11 * n + 5 ≤ t) → μ a t = σ a t := fun a t u => by rw [hμ, zup_f (by omega), zup_f (by omega), zup_f (by omega), zup_f (by omega), zup_f (by omega)]
  have hz := zno_b6 k
  obtain ⟨σ', k1, k2, k2', k3⟩ := l_281 w d hn (k := k) (v2 := zI p) (v3 := zI q) (v4 := zI de) (v5 := zI bl) 6 0 μ (by decide) (by decide)
  refine ⟨σ', ?_, ?_, ?_, ?_, ?_, ?_, fun t a b => ?_, k2', fun t u => ?_, fun a t u v => ?_⟩
  · rw [eX12_comes, e, m0, m1 1 (by decide) (by decide), m1 2 (by decide) (by decide), m1 3 (by decide) (by decide), m1 4 (by decide) (by decide), if_pos (by omega), if_pos (by omega), if_pos (by omega), if_pos (by omega), if_pos (by omega), ← hμ]
    exact k1
  · rw [k3 _ _ (by omega) (by omega), hμ, zup_f (by omega), zup_f (by omega), zup_f (by omega), zup_f (by omega), zup_t ⟨rfl, rfl, by decide⟩]
  · rw [k3 _ _ (by omega) (by omega), hμ, zup_f (by omega), zup_f (by omega), zup_f (by omega), zup_t ⟨rfl, rfl, by decide⟩]
  · rw [k3 _ _ (by omega) (by omega), hμ, zup_f (by omega), zup_f (by omega), zup_t ⟨rfl, rfl, by decide⟩]
  · rw [k3 _ _ (by omega) (by omega), hμ, zup_f (by omega), zup_t ⟨rfl, rfl, by decide⟩]
  · rw [k3 _ _ (by omega) (by omega), hμ, zup_t ⟨rfl, rfl, by decide⟩]
  · rw [k2 t a (by omega), if_pos b, f _ _ (by omega)]
  · rw [k3 _ _ (by omega) (by omega), f _ _ (by omega)]
  · rw [k3 _ _ (by omega) v, f _ _ (by omega)]
/-- all stays true with a new shape -/
theorem yadd {σ σ' : zMem} {n k p q : Int} {N : Int → Int} (hI : zInv σ) (en : σ 209 1 = n) (hn : n < 24) (h : ypq n k p q) (hN : zNV k N) (hD : ydp (σ 210) k p q ≤ 6) (hB : ybd (σ 210) k p q ≤ 2)
    (a0 : σ' 210 (11 * n) = k) (a1 : σ' 210 (11 * n + 1) = p) (a2 : σ' 210 (11 * n + 2) = q) (a3 : σ' 210 (11 * n + 3) = ydp (σ 210) k p q) (a4 : σ' 210 (11 * n + 4) = ybd (σ 210) k p q) (a5 : ∀ t, 0 ≤ t → t < zno k → σ' 210 (11 * n + 5 + t) = N t) (a6 : ∀ t, t < 11 * n → σ' 210 t = σ 210 t)
    (b1 : σ' 209 1 = n + 1) (b2 : ∀ t, t ≠ 1 → σ' 209 t = σ 209 t) (c1 : σ' 2 7 = n + 1) (c2 : σ' 3 n = k) (c3 : σ' 4 n = p) (c4 : σ' 5 n = q) (c5 : σ' 6 n = ydp (σ 210) k p q) (c6 : σ' 7 n = ybd (σ 210) k p q) (c7 : σ' 8 n = yso (σ 210) k p q) (c8 : ∀ t, 0 ≤ t → t < zno k → σ' 9 (6 * n + t) = N t)
    (d1 : ∀ a t, 3 ≤ a → a ≤ 8 → t ≠ n → σ' a t = σ a t) (d2 : ∀ t, t < 6 * n → σ' 9 t = σ 9 t) (d3 : ∀ t, t < n → σ' 87 t = σ 87 t) (d4 : σ' 87 n = 0) (d5 : ∀ a t, a ≠ 210 → a ≠ 209 → ¬ (2 ≤ a ∧ a ≤ 9) → a ≠ 87 → a ≠ 206 → a ≠ 221 → σ' a t = σ a t) : zInv σ' := by
  obtain ⟨t0, ⟨tT, tTb⟩, tC, tK, tB, tS, tR, tP⟩ := hI
  rw [en] at tT tTb tC
  have b := ydp_b tT h
  have h0 := tT.1
  have cg : ∀ t : Int, 0 ≤ t → t < 11 * n → σ' 210 t = σ 210 t := fun t _ u => a6 t u
  have W1 := zWF_c tT cg
  have WS : zWS (σ' 210) n := by
    refine ⟨?_, by rw [a3]; exact b.1, by rw [a3]; exact hD, by rw [a4]; exact b.2.2.1, by rw [a4]; exact hB, ?_⟩
    · rw [a0, a1, a2, a3, a4]
      unfold ydp ybd
      rcases h with ⟨x, y, rfl, rfl⟩ | ⟨x, y, hp, hq⟩ | ⟨x, y, hp, rfl⟩
      · exact Or.inl ⟨x, y, rfl, rfl, if_pos y, by rw [if_pos y, if_neg (by omega)]; rfl⟩
      · have g1 := a6 (11 * p + 3) (by omega)
        have g2 := a6 (11 * q + 3) (by omega)
        have g3 := a6 (11 * p + 4) (by omega)
        have g4 := a6 (11 * q + 4) (by omega)
        rw [g1, g2, g3, g4]
        have e1 : ¬ k ≤ 5 := by omega
        have e2 : ¬ q < 0 := by omega
        simp only [if_neg e1, if_neg e2]
        exact Or.inr (Or.inl ⟨x, y, hp.1, hp.2, hq.1, hq.2, trivial, trivial⟩)
      · have g1 := a6 (11 * p + 3) (by omega)
        have g3 := a6 (11 * p + 4) (by omega)
        have z := (tT.2.2 p hp.1 hp.2).2
        rw [g1, g3]
        have e1 : ¬ k ≤ 5 := by omega
        have e2 : (-1 : Int) < 0 := by decide
        have e3 : ¬ k = 11 := by omega
        simp only [if_neg e1, if_pos e2, if_neg e3]
        exact Or.inr (Or.inr ⟨x, y, hp.1, hp.2, trivial, by omega, by omega⟩)
    · rw [a0]
      intro i i0 i1
      have hz := zno_b6 k
      have := hN i i0 i1
      dsimp only
      rw [a5 i i0 i1]
      have ea : zahead k i (fun i => σ' 210 (11 * n + 5 + i)) = zahead k i N := by
        unfold zahead
        by_cases c : k = 4 ∧ 3 ≤ i
        · rw [if_pos c, if_pos c]; exact a5 (i - 3) (by omega) (by omega)
        · rw [if_neg c, if_neg c]; exact a5 0 (by decide) (by omega)
      rw [ea]
      exact this
  have W2 : zWF (σ' 210) (n + 1) := by
    refine ⟨by omega, by omega, fun s s0 s1 => ?_⟩
    by_cases c : s = n
    · rw [c]; exact WS
    · exact W1.2.2 s s0 (by omega)
  refine ⟨(d5 _ _ (by decide) (by decide) (by decide) (by decide) (by decide) (by decide)).trans t0, ?_, ?_, ?_, ?_, ?_, ?_, ?_⟩
  · unfold zI_T
    rw [b1]
    refine ⟨W2, c1, fun s s0 s1 => ?_⟩
    by_cases c : s = n
    · subst c
      rw [a0, a1, a2, a3, a4]
      refine ⟨c2, c3, c4, c5, c6, ?_, fun t x y => (c8 t x y).trans (a5 t x y).symm⟩
      refine c7.trans ?_
      have eS : zsolN (σ' 210) 7 s = if k ≤ 5 then 1 else zsolN (σ' 210) 6 p + (if q < 0 then 0 else zsolN (σ' 210) 6 q) := by
        show zsolN (σ' 210) (6 + 1) s = _
        rw [zsolN, a0, a1, a2]
      rw [yso, eS]
      by_cases ck : k ≤ 5
      · rw [if_pos ck, if_pos ck]
      · rw [if_neg ck, if_neg ck]
        have d7 : ∀ r : Int, 0 ≤ r → r < s → σ 210 (11 * r + 3) ≤ 5 → zsolN (σ 210) 7 r = zsolN (σ' 210) 6 r := by
          intro r r0 r1 r2
          have := (tT.2.2 r r0 r1).2.1
          rw [zsolN_c tT cg 6 r r0 r1]
          exact zsolN_f tT 7 6 r r0 r1 (by omega) (by omega)
        unfold ydp at hD
        rw [if_neg ck] at hD
        rcases h with ⟨x, y, rfl, rfl⟩ | ⟨x, y, hp, hq⟩ | ⟨x, y, hp, rfl⟩
        · omega
        · rw [if_neg (show ¬ q < 0 by omega)] at hD ⊢
          rw [if_neg (show ¬ q < 0 by omega), d7 p hp.1 hp.2 (by omega), d7 q hq.1 hq.2 (by omega)]
        · have z := (tT.2.2 p hp.1 hp.2).2
          rw [if_pos (by decide)] at hD
          rw [if_pos (by decide), if_pos (by decide), d7 p hp.1 hp.2 (by omega)]
    · have u := (zTb_c tT cg tTb).2 s s0 (by omega)
      obtain ⟨u1, u2, u3, u4, u5, u6, u7⟩ := u
      refine ⟨(d1 _ _ (by decide) (by decide) c).trans u1, (d1 _ _ (by decide) (by decide) c).trans u2, (d1 _ _ (by decide) (by decide) c).trans u3, (d1 _ _ (by decide) (by decide) c).trans u4, (d1 _ _ (by decide) (by decide) c).trans u5, (d1 _ _ (by decide) (by decide) c).trans u6, fun t x y => ?_⟩
      have := zno_b6 (σ' 210 (11 * s))
      exact (d2 _ (by omega)).trans (u7 t x y)
  · rw [b1]
    intro i i0 i1
    by_cases c : i = n
    · rw [c]; exact Or.inl d4
    · rw [d3 i (by omega), zlkN_c tT cg i0 (by omega) 4 0 0 0, zns_c tT cg i0 (by omega)]
      rcases tC i i0 (by omega) with u | u
      · exact Or.inl u
      · exact Or.inr ⟨u.1, zPS_fr (fun k => d5 _ _ (by omega) (by omega) (by omega) (by omega) (by omega) (by omega)) u.2⟩
  · obtain ⟨k1, k2, k3, k4, k5, k6⟩ := tK
    rw [en] at k4
    have e14 : σ' 1 14 = σ 1 14 := d5 _ _ (by decide) (by decide) (by decide) (by decide) (by decide) (by decide)
    have e15 : σ' 1 15 = σ 1 15 := d5 _ _ (by decide) (by decide) (by decide) (by decide) (by decide) (by decide)
    have e31 : σ' 209 31 = σ 209 31 := b2 _ (by decide)
    have e243 : σ' 243 = σ 243 := funext fun t => d5 _ _ (by decide) (by decide) (by decide) (by decide) (by decide) (by decide)
    have e258 : σ' 258 = σ 258 := funext fun t => d5 _ _ (by decide) (by decide) (by decide) (by decide) (by decide) (by decide)
    have e244 : σ' 244 = σ 244 := funext fun t => d5 _ _ (by decide) (by decide) (by decide) (by decide) (by decide) (by decide)
    unfold zI_K
    rw [e14, e15, e31, b1, e243, e258, e244]
    refine ⟨k1, k2, k3, by omega, k5, fun u => ?_⟩
    obtain ⟨v1, v2, v3, v4, v5⟩ := k6 u
    refine ⟨v1, zTb_fr (fun a t x y => d5 _ _ (by omega) (by omega) (by omega) (by omega) (by omega) (by omega)) v2, v3, fun t x y => by rw [a6 t (by omega)]; exact v4 t x y, ?_⟩
    have u6 := zBl_fr (σ' := σ') (fun a k q r => d5 _ _ (by omega) (by omega) (by omega) (by omega) (by omega) (by omega)) v5
    obtain ⟨w1, w2, w3, w4, w5, w6, w7, w8, w9, w10⟩ := u6
    refine ⟨w1, w2, w3, w4, w5, w6, w7, w8, w9, fun i q r => ?_⟩
    have e9 : σ' (246 + i) = σ (246 + i) := funext fun k => d5 _ _ (by omega) (by omega) (by omega) (by omega) (by omega) (by omega)
    dsimp only
    rw [e9]
    exact w10 i q r
  · refine zI_B_fr (fun a t u => ?_) tB
    unfold zsB at u
    by_cases c : a = 209
    · rw [c]; exact b2 _ (by omega)
    · exact d5 _ _ (by omega) c (by omega) (by omega) (by omega) (by omega)
  · intro s s0 s1
    have g := tS s s0 s1
    have f : ∀ a t, (a = 75 ∨ a = 76 ∨ a = 77 ∨ a = 226 ∨ a = 227 ∨ a = 228) → σ' a t = σ a t := fun a t u => d5 _ _ (by omega) (by omega) (by omega) (by omega) (by omega) (by omega)
    rw [f 75 _ (by decide), f 226 _ (by decide), f 76 _ (by decide), f 227 _ (by decide), b1]
    refine ⟨g.1, ?_, fun i x y => by rw [f 77 _ (by decide), f 228 _ (by decide)]; exact g.2.2 i x y⟩
    have := g.2.1
    rw [en] at this
    omega
  · exact zI_R_fr (fun a t u => d5 _ _ (by unfold zsR at u; omega) (by unfold zsR at u; omega) (by unfold zsR at u; omega) (by unfold zsR at u; omega) (by unfold zsR at u; omega) (by unfold zsR at u; omega)) tR
  · refine zI_P_fr (fun a t u => ?_) tP
    unfold zsP at u
    by_cases c : a = 209
    · rw [c]; exact b2 _ (by omega)
    · exact d5 _ _ (by omega) c (by omega) (by omega) (by omega) (by omega)
end
