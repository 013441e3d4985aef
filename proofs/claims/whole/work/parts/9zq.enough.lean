section
/-! Call 34: enough -/
/-- whether a place is in at t of n -/
def yen (T : Int → Int) (p q n t r : Int) : Bool := decide (ywp T p r * (n - t) + ywp T q r * t ≤ 0)
theorem ysg {A B n1 e1 n2 e2 u v : Int} (x : yF A n1 e1) (y : yF B n2 e2) : 0 < n1 * e2 * u + n2 * e1 * v ↔ 0 < A * u + B * v := by
  obtain ⟨a0, a1, -⟩ := x
  obtain ⟨b0, b1, -⟩ := y
  have k0 : 0 < e1 * e2 := Int.mul_pos a0 b0
  have k : (n1 * e2 * u + n2 * e1 * v) * zONE = (A * u + B * v) * (e1 * e2) := by
    have h1 : n1 * e2 * u * zONE = A * u * (e1 * e2) := by
      have : n1 * e2 * u * zONE = (n1 * zONE) * (e2 * u) := by simp only [Int.mul_assoc, Int.mul_left_comm, Int.mul_comm]
      rw [this, a1]; simp only [Int.mul_assoc, Int.mul_left_comm, Int.mul_comm]
    have h2 : n2 * e1 * v * zONE = B * v * (e1 * e2) := by
      have : n2 * e1 * v * zONE = (n2 * zONE) * (e1 * v) := by simp only [Int.mul_assoc, Int.mul_left_comm, Int.mul_comm]
      rw [this, b1]; simp only [Int.mul_assoc, Int.mul_left_comm, Int.mul_comm]
    rw [Int.add_mul, Int.add_mul, h1, h2]
  generalize n1 * e2 * u + n2 * e1 * v = X at *
  generalize A * u + B * v = Y at *
  constructor
  · intro h
    apply Classical.byContradiction
    intro c
    have : Y * (e1 * e2) ≤ 0 * (e1 * e2) := Int.mul_le_mul_of_nonneg_right (by omega) (by omega)
    unfold zONE at k; omega
  · intro h
    apply Classical.byContradiction
    intro c
    have : 0 < Y * (e1 * e2) := Int.mul_pos h k0
    unfold zONE at k; omega
theorem l_179i (w : zW) {d : Nat} {x1 x2 x4 n P Q : Int} {v5 v8 : zV} {b : Int → Bool} (hn : 1 ≤ n ∧ n ≤ 9) (hb : ∀ t, 0 ≤ t → t ≤ n → ((0 < zar 12 (zar 14 P (zar 1 n t)) (zar 14 Q t)) ↔ b t = false)) : ∀ (m : Nat) (t : Int) (σ : zMem), 0 ≤ t → t + m = n + 1 → (∀ j, t ≤ j → j ≤ n → 0 ≤ σ 207 j ∧ σ 207 j ≤ 4096) →
    ∃ σ' x12, zden w (d + 1) 179 47 [zA 12 16 1, zI x1, zI x2, zI n, zI x4, v5, zJ P, zU, v8, zU, zJ Q, zU, zI t] [] σ = zden w (d + 1) 179 16 [zA 12 16 1, zI x1, zI x2, zI n, zI (zar 0 x4 1), v5, zJ P, zU, v8, zU, zJ Q, zU, zI x12] [] σ'
      ∧ (∀ j, t ≤ j → j ≤ n → σ' 207 j = σ 207 j + yb1 (b j)) ∧ ∀ c j, (c ≠ 207 ∨ j < t) → σ' c j = σ c j := by
  intro m
  induction m with
  | zero =>
    intro t σ h0 h B
    rw [hX11_countBlends_47, if_pos (by omega)]
    exact ⟨σ, t, rfl, fun j _ _ => by omega, fun _ _ _ => rfl⟩
  | succ m ih =>
    intro t σ h0 h B
    have e1 : zar 0 t 1 = t + 1 := by rw [za_0, zw32_i (by omega)]
    have B0 := B t (by omega) (by omega)
    have e2 : zar 0 (σ 207 t) 1 = σ 207 t + 1 := by rw [za_0, zw32_i (by omega)]
    have hs := hb t h0 (by omega)
    rw [hX11_countBlends_47, if_neg (by omega), if_pos (by omega), e1, zcmp_gt]
    by_cases c : 0 < zar 12 (zar 14 P (zar 1 n t)) (zar 14 Q t)
    · obtain ⟨σ', x12, k1, k2, k3⟩ := ih (t + 1) σ (by omega) (by omega) (fun j x y => B j (by omega) y)
      rw [if_pos c, k1]
      refine ⟨σ', x12, rfl, fun j a b' => ?_, fun c' j u => k3 c' j (by omega)⟩
      by_cases cj : j = t
      · subst cj; rw [k3 _ _ (by omega), hs.1 c]; show _ = _ + (0 : Int); omega
      · exact k2 j (by omega) b'
    · have ht : b t = true := by
        cases hbt : b t
        · exact absurd (hs.2 hbt) c
        · rfl
      obtain ⟨σ', x12, k1, k2, k3⟩ := ih (t + 1) (zup σ 207 t (σ 207 t + 1)) (by omega) (by omega) (fun j x y => by rw [zup_f (by omega)]; exact B j (by omega) y)
      rw [if_neg c, if_pos (by omega), if_pos (by omega), e2, k1]
      refine ⟨σ', x12, rfl, fun j a b' => ?_, fun c' j u => (k3 c' j (by omega)).trans (zup_f (by omega))⟩
      by_cases cj : j = t
      · subst cj; rw [k3 _ _ (by omega), zup_t ⟨rfl, rfl, by decide⟩, ht]; rfl
      · rw [k2 j (by omega) b', zup_f (by omega)]

theorem yen_sm {T : Int → Int} {p q n r bp dp bq dq : Int} (hn : 1 ≤ n ∧ n ≤ 9) (qx : yQ bp dp (ywp T p r)) (qy : yQ bq dq (ywp T q r)) (hdp : 0 ≤ dp ∧ dp ≤ 6) (hdq : 0 ≤ dq ∧ dq ≤ 6) (t : Int) (h0 : 0 ≤ t) (h1 : t ≤ n) :
    zar 12 (zar 14 (ywp T p r) (zar 1 n t)) (zar 14 (ywp T q r) t) = ywp T p r * (n - t) + ywp T q r * t := by
  obtain ⟨-, -, l1, l2⟩ := qx
  obtain ⟨-, -, l3, l4⟩ := qy
  have em : zar 1 n t = n - t := by rw [za_1, zw32_i (by omega)]
  have hW : ∀ W D : Int, 0 ≤ D ∧ D ≤ 6 → -((702768 + 99 * D) * zONE) ≤ W → W ≤ (702768 + 99 * D) * zONE → -11255907712896000 ≤ W ∧ W ≤ 11255907712896000 := by
    intro W D hD l u
    have V : (702768 + 99 * D) * zONE ≤ 703362 * zONE := Int.mul_le_mul_of_nonneg_right (by omega) (by decide)
    unfold zONE at *
    omega
  have w1 := hW _ _ hdp l1 l2
  have w2 := hW _ _ hdq l3 l4
  generalize ywp T p r = A at *
  generalize ywp T q r = B at *
  have m5 := ymul_b w1 (show 0 ≤ n - t ∧ n - t ≤ 9 by omega)
  have m6 := ymul_b w2 (show 0 ≤ t ∧ t ≤ 9 by omega)
  rw [em, za_14 A, zw64_i (by omega), za_14 B, zw64_i (by omega), za_12, zw64_i (by omega)]

/-- the signs of both sides' sums are the same -/
theorem yen_sg {T : Int → Int} {p q n r n1 e1 n2 e2 bp dp bq dq : Int} (hn : 1 ≤ n ∧ n ≤ 9) (x : yF (ywp T p r) n1 e1) (y : yF (ywp T q r) n2 e2) (qx : yQ bp dp (ywp T p r)) (qy : yQ bq dq (ywp T q r)) (hdp : 0 ≤ dp ∧ dp ≤ 6) (hdq : 0 ≤ dq ∧ dq ≤ 6) (hbp : bp ≤ 1) (hbq : bq ≤ 1) (t : Int) (h0 : 0 ≤ t) (h1 : t ≤ n) :
    (0 < zar 12 (zar 14 (zar 14 n1 e2) (zar 1 n t)) (zar 14 (zar 14 n2 e1) t)) ↔ yen T p q n t r = false := by
  have sg := ysg (u := n - t) (v := t) x y
  obtain ⟨⟨a1, a2⟩, a3, a4⟩ := yc_q x qx hdp hbp
  obtain ⟨⟨b1, b2⟩, b3, b4⟩ := yc_q y qy hdq hbq
  have em : zar 1 n t = n - t := by rw [za_1, zw32_i (by omega)]
  have m1 := ymul_b ⟨a3, a4⟩ (show 0 ≤ e2 ∧ e2 ≤ 22680 by omega)
  have m2 := ymul_b ⟨b3, b4⟩ (show 0 ≤ e1 ∧ e1 ≤ 22680 by omega)
  rw [em, za_14 n1, zw64_i (z := n1 * e2) (by omega), za_14 n2, zw64_i (z := n2 * e1) (by omega)]
  generalize n1 * e2 = P at *
  generalize n2 * e1 = Q at *
  have m3 := ymul_b (x := 361800000000000) (y := 9) (show -361800000000000 ≤ P ∧ P ≤ 361800000000000 by omega) (show 0 ≤ n - t ∧ n - t ≤ 9 by omega)
  have m4 := ymul_b (x := 361800000000000) (y := 9) (show -361800000000000 ≤ Q ∧ Q ≤ 361800000000000 by omega) (show 0 ≤ t ∧ t ≤ 9 by omega)
  rw [za_14 P, zw64_i (by omega), za_14 Q, zw64_i (by omega), za_12 (P * (n - t)), zw64_i (by omega)]
  unfold yen
  generalize ywp T p r = A at *
  generalize ywp T q r = B at *
  refine sg.trans ?_
  rw [decide_eq_false_iff_not]
  omega
theorem l_179 (w : zW) {d : Nat} (hd : 21 ≤ d) {T : Int → Int} {N p q n : Int} (hT : zWF T N) (hp : 0 ≤ p ∧ p < N) (hq : 0 ≤ q ∧ q < N) (hn : 1 ≤ n ∧ n ≤ 9) (hbp : T (11 * p + 4) ≤ 1) (hbq : T (11 * q + 4) ≤ 1) : ∀ (m i : Nat) (v5 v6 v8 v10 v12 : zV) (σ : zMem), i + m = 4096 → zTb 2 σ T N → (∀ j, 0 ≤ j → j ≤ n → σ 207 j = (yct (yen T p q n j) i : Int)) →
    ∃ σ', zden w (d + 1) 179 16 [zA 12 16 1, zI p, zI q, zI n, zI (i : Int), v5, v6, zU, v8, zU, v10, zU, v12] [] σ = some (0, σ') ∧ (∀ j, 0 ≤ j → j ≤ n → σ' 207 j = (yct (yen T p q n j) 4096 : Int)) ∧ ∀ c k, (c < 174 ∨ 183 < c) → c ≠ 207 → σ' c k = σ c k := by
  have gp := (hT.2.2 p hp.1 hp.2).2
  have gq := (hT.2.2 q hq.1 hq.2).2
  intro m
  induction m with
  | zero =>
    intro i v5 v6 v8 v10 v12 σ h hTb hc
    have : i = 4096 := by omega
    subst this
    rw [hX11_countBlends_16, if_neg (by decide)]
    exact ⟨σ, rfl, hc, fun _ _ _ _ => rfl⟩
  | succ m ih =>
    intro i v5 v6 v8 v10 v12 σ h hTb hc
    obtain ⟨σ1, e1, u1, f1⟩ := s_199 w hd hT hTb hp (p := (i : Int)) (by omega)
    obtain ⟨σ2, e2, u2, f2⟩ := s_199 w hd (σ := σ1) hT (zTb_fr (fun a k x y => f1 a k (by omega)) hTb) hq (p := (i : Int)) (by omega)
    have ei : zar 0 (i : Int) 1 = ((i + 1 : Nat) : Int) := by rw [za_0, zw32_i (by omega)]; omega
    have qp := yQ_wd hT 7 p ((i : Int) / 256) ((i : Int) / 16 % 16) ((i : Int) % 16) hp.1 hp.2 (by omega) (by omega) (by omega) (by omega)
    have qq := yQ_wd hT 7 q ((i : Int) / 256) ((i : Int) / 16 % 16) ((i : Int) % 16) hq.1 hq.2 (by omega) (by omega) (by omega) (by omega)
    have sg := fun t a b => (yen_sg (T := T) (p := p) (q := q) (r := (i : Int)) hn u1 u2 qp qq (by omega) (by omega) hbp hbq t a b)
    obtain ⟨σ3, x12, k1, k2, k3⟩ := l_179i w (d := d) (x1 := p) (x2 := q) (x4 := (i : Int)) (v5 := zA 2 2 176) (v8 := zJ (σ1 176 1)) (b := fun t => yen T p q n t (i : Int)) hn sg (n + 1).toNat 0 σ2 (by decide) (by omega) (fun j a b => by
      rw [f2 _ _ (by omega), f1 _ _ (by omega), hc j a b]
      have := yct_le (yen T p q n j) i
      omega)
    rw [ei] at k1
    have fr : ∀ c k, (c < 174 ∨ 183 < c) → c ≠ 207 → σ3 c k = σ c k := fun c k u v => (k3 c k (Or.inl v)).trans ((f2 c k u).trans (f1 c k u))
    obtain ⟨σ4, j1, j2, j3⟩ := ih (i + 1) (zA 2 2 176) (zJ (zar 14 (σ1 176 0) (σ2 176 1))) (zJ (σ1 176 1)) (zJ (zar 14 (σ2 176 0) (σ1 176 1))) (zI x12) σ3 (by omega) (zTb_fr (fun a k x y => fr a k (by omega) (by omega)) hTb) (fun j a b => by
      rw [k2 j a b, f2 _ _ (by omega), f1 _ _ (by omega), hc j a b, yct_s]
      unfold yb1
      split <;> omega)
    rw [hX11_countBlends_16, if_pos (by omega), e1, Option.bind_some]
    dsimp only
    rw [eX1_numerator, Option.bind_some]
    dsimp only
    rw [eX1_denominator, Option.bind_some]
    dsimp only
    rw [e2, Option.bind_some]
    dsimp only
    rw [eX1_denominator, Option.bind_some]
    dsimp only
    rw [eX1_numerator, Option.bind_some]
    dsimp only
    rw [k1, j1]
    exact ⟨σ4, rfl, j2, fun c k u v => (j3 c k u v).trans (fr c k u v)⟩
theorem s_179 (w : zW) {d : Nat} (hd : 22 ≤ d) {T : Int → Int} {N p q n : Int} {σ : zMem} (hT : zWF T N) (hTb : zTb 2 σ T N) (hp : 0 ≤ p ∧ p < N) (hq : 0 ≤ q ∧ q < N) (hn : 1 ≤ n ∧ n ≤ 9) (hbp : T (11 * p + 4) ≤ 1) (hbq : T (11 * q + 4) ≤ 1) :
    ∃ σ', zcall w d 179 [zA 12 16 1, zI p, zI q, zI n] σ = some (0, σ') ∧ (∀ j, 0 ≤ j → j ≤ n → σ' 207 j = (yct (yen T p q n j) 4096 : Int)) ∧ ∀ c k, (c < 174 ∨ 183 < c) → c ≠ 207 → σ' c k = σ c k := by
  obtain ⟨d, rfl⟩ : ∃ e, d = e + 1 := ⟨d - 1, by omega⟩
  have clear : ∀ (m : Nat) (t : Int) (σ : zMem), 0 ≤ t → t + m = 10 → (∀ j, 0 ≤ j → j < t → σ 207 j = 0) → ∃ σ', zden w (d + 1) 179 2 [zA 12 16 1, zI p, zI q, zI n, zI t, zU, zU, zU, zU, zU, zU, zU, zU] [] σ = zden w (d + 1) 179 16 [zA 12 16 1, zI p, zI q, zI n, zI 0, zU, zU, zU, zU, zU, zU, zU, zU] [] σ' ∧ (∀ j, 0 ≤ j → j < 10 → σ' 207 j = 0) ∧ ∀ c k, c ≠ 207 → σ' c k = σ c k := by
    intro m
    induction m with
    | zero =>
      intro t σ h0 h hz
      rw [hX11_countBlends_2, if_neg (by omega)]
      exact ⟨σ, rfl, fun j a b => hz j a (by omega), fun _ _ _ => rfl⟩
    | succ m ih =>
      intro t σ h0 h hz
      have e1 : zar 0 t 1 = t + 1 := by rw [za_0, zw32_i (by omega)]
      obtain ⟨σ', k1, k2, k3⟩ := ih (t + 1) (zup σ 207 t 0) (by omega) (by omega) (fun j a b => by
        by_cases c : j = t
        · rw [zup_t ⟨rfl, c, by decide⟩]
        · rw [zup_f (by omega)]; exact hz j a (by omega))
      rw [hX11_countBlends_2, if_pos (by omega), if_pos (by omega), e1, k1]
      exact ⟨σ', rfl, k2, fun c k u => (k3 c k u).trans (zup_f (by omega))⟩
  obtain ⟨σ1, a1, a2, a3⟩ := clear 10 0 σ (by decide) (by decide) (fun j a b => by omega)
  obtain ⟨σ2, b1, b2, b3⟩ := l_179 w (d := d) (by omega) hT hp hq hn hbp hbq 4096 0 zU zU zU zU zU σ1 (by decide) (zTb_fr (fun a k x y => a3 a k (by omega)) hTb) (fun j a b => by rw [a2 j a (by omega)]; rfl)
  rw [eX11_countBlends, a1]
  exact ⟨σ2, b1, b2, fun c k u v => (b3 c k u v).trans (a3 c k v)⟩
/-- the first of the counts that is enough -/
def ymn (c : Int → Int) (many : Int) : Nat → Int → Int
  | 0, _ => -1
  | m + 1, t => if c t < many then ymn c many m (t + 1) else t
theorem l_178 (w : zW) {d : Nat} {n many : Int} {c : Int → Int} {v1 v2 : zV} {σ : zMem} (hn : 1 ≤ n ∧ n ≤ 9) (hc : ∀ j, 0 ≤ j → j ≤ n → σ 207 j = c j) : ∀ (m : Nat) (t : Int), 0 ≤ t → t + m = n + 1 →
    zden w (d + 1) 178 40 [zA 12 16 1, v1, v2, zI n, zI many, zI t] [] σ = some (ymn c many m t, σ) := by
  intro m
  induction m with
  | zero => intro t h0 h; rw [hX11_enough_40, if_pos (by omega)]; rfl
  | succ m ih =>
    intro t h0 h
    have e1 : zar 0 t 1 = t + 1 := by rw [za_0, zw32_i (by omega)]
    rw [hX11_enough_40, if_neg (by omega), if_pos (by omega), if_pos (by omega), hc t h0 (by omega), e1, ymn, ih (t + 1) (by omega) (by omega)]
    split <;> rfl
theorem l_273i (w : zW) {d : Nat} (hd : 17 ≤ d) {N p q n many t : Int} {σ : zMem} (hT : zWF (σ 210) N) (hp : 0 ≤ p ∧ p < N) (hq : 0 ≤ q ∧ q < N) (hn : 1 ≤ n ∧ n ≤ 9) (h0 : 0 ≤ t) (h1 : t ≤ n) (hbp : σ 210 (11 * p + 4) ≤ 1) (hbq : σ 210 (11 * q + 4) ≤ 1) : ∀ (m i : Nat) (v8 v10 : zV), i + m = 4096 →
    ∃ v8' v10', zden w (d + 1) 273 49 [zA 13 32 209, zI p, zI q, zI n, zI many, zI t, zI (yct (yen (σ 210) p q n t) i : Int), zI (i : Int), v8, zU, v10, zU] [] σ = if (yct (yen (σ 210) p q n t) 4096 : Int) < many then zden w (d + 1) 273 42 [zA 13 32 209, zI p, zI q, zI n, zI many, zI (t + 1), zI (yct (yen (σ 210) p q n t) 4096 : Int), zI 4096, v8', zU, v10', zU] [] σ else some (t, σ) := by
  have gp := (hT.2.2 p hp.1 hp.2).2
  have gq := (hT.2.2 q hq.1 hq.2).2
  have et : zar 0 t 1 = t + 1 := by rw [za_0, zw32_i (by omega)]
  intro m
  induction m with
  | zero =>
    intro i v8 v10 h
    have : i = 4096 := by omega
    subst this
    exact ⟨v8, v10, by rw [hX12_enough_49, if_neg (by decide), et]; rfl⟩
  | succ m ih =>
    intro i v8 v10 h
    have ei : zar 0 (i : Int) 1 = ((i + 1 : Nat) : Int) := by rw [za_0, zw32_i (by omega)]; omega
    have qp := yQ_wd hT 7 p ((i : Int) / 256) ((i : Int) / 16 % 16) ((i : Int) % 16) hp.1 hp.2 (by omega) (by omega) (by omega) (by omega)
    have qq := yQ_wd hT 7 q ((i : Int) / 256) ((i : Int) / 16 % 16) ((i : Int) % 16) hq.1 hq.2 (by omega) (by omega) (by omega) (by omega)
    have ep := s_219 w (n := N) 7 d p ((i : Int) / 256) ((i : Int) / 16 % 16) ((i : Int) % 16) σ hT (by omega) hp.1 hp.2 (by omega) (by omega) (by omega) (by omega)
    have eq := s_219 w (n := N) 7 d q ((i : Int) / 256) ((i : Int) / 16 % 16) ((i : Int) % 16) σ hT (by omega) hq.1 hq.2 (by omega) (by omega) (by omega) (by omega)
    have sm := yen_sm (T := σ 210) (p := p) (q := q) (r := (i : Int)) hn qp qq (by omega) (by omega) t h0 h1
    have lt := yct_le (yen (σ 210) p q n t) i
    rw [hX12_enough_49, if_pos (by omega), s_243, Option.bind_some]
    dsimp only
    rw [s_244 w d (by omega), Option.bind_some]
    dsimp only
    rw [s_245 w d (by omega), Option.bind_some]
    dsimp only
    rw [ep, Option.bind_some]
    dsimp only
    rw [s_243, Option.bind_some]
    dsimp only
    rw [s_244 w d (by omega), Option.bind_some]
    dsimp only
    rw [s_245 w d (by omega), Option.bind_some]
    dsimp only
    rw [eq, Option.bind_some]
    dsimp only
    rw [show zwd (σ 210) 7 p ((i : Int) / 256) ((i : Int) / 16 % 16) ((i : Int) % 16) = ywp (σ 210) p i from rfl, show zwd (σ 210) 7 q ((i : Int) / 256) ((i : Int) / 16 % 16) ((i : Int) % 16) = ywp (σ 210) q i from rfl, zcmp_gt, sm, ei]
    have es : (yct (yen (σ 210) p q n t) (i + 1) : Int) = yct (yen (σ 210) p q n t) i + (if yen (σ 210) p q n t i = true then 1 else 0) := by
      rw [yct_s]; split <;> omega
    obtain ⟨v8', v10', k⟩ := ih (i + 1) (zJ (ywp (σ 210) p i)) (zJ (ywp (σ 210) q i)) (by omega)
    refine ⟨v8', v10', ?_⟩
    rw [← k, es]
    by_cases c : 0 < ywp (σ 210) p i * (n - t) + ywp (σ 210) q i * t
    · have : yen (σ 210) p q n t i = false := decide_eq_false (by omega)
      rw [if_pos c, this, if_neg (by decide), za_0, zw32_i (by omega)]
    · have : yen (σ 210) p q n t i = true := decide_eq_true (by omega)
      rw [if_neg c, this, if_pos rfl, za_0, zw32_i (by omega)]
theorem l_273 (w : zW) {d : Nat} (hd : 17 ≤ d) {N p q n many : Int} {σ : zMem} (hT : zWF (σ 210) N) (hp : 0 ≤ p ∧ p < N) (hq : 0 ≤ q ∧ q < N) (hn : 1 ≤ n ∧ n ≤ 9) (hbp : σ 210 (11 * p + 4) ≤ 1) (hbq : σ 210 (11 * q + 4) ≤ 1) : ∀ (m : Nat) (t : Int) (v6 v7 v8 v10 : zV), 0 ≤ t → t + m = n + 1 →
    zden w (d + 1) 273 42 [zA 13 32 209, zI p, zI q, zI n, zI many, zI t, v6, v7, v8, zU, v10, zU] [] σ = some (ymn (fun j => (yct (yen (σ 210) p q n j) 4096 : Int)) many m t, σ) := by
  intro m
  induction m with
  | zero => intro t v6 v7 v8 v10 h0 h; rw [hX12_enough_42, if_pos (by omega)]; rfl
  | succ m ih =>
    intro t v6 v7 v8 v10 h0 h
    obtain ⟨v8', v10', k⟩ := l_273i w hd (many := many) hT hp hq hn h0 (by omega) hbp hbq 4096 0 v8 v10 (by decide)
    rw [hX12_enough_42, if_neg (by omega)]
    refine Eq.trans k ?_
    rw [ih (t + 1) _ _ _ _ (by omega) (by omega), ymn]
    split <;> rfl
theorem op_34 (w : zW) (x1 x2 x3 x4 : Int) : zOp zInv w 178 273 [zI x1, zI x2, zI x3, zI x4] := by
  intro σ hI
  have hT := hI.2.1.1
  have hTb := hI.2.1.2
  by_cases h : (0 ≤ x1 ∧ x1 < σ 209 1) ∧ (0 ≤ x2 ∧ x2 < σ 209 1) ∧ (1 ≤ x3 ∧ x3 ≤ 9) ∧ (0 ≤ x4 ∧ x4 ≤ 4096)
  · obtain ⟨h1, h2, h3, h4⟩ := h
    have gp := (hT.2.2 x1 h1.1 h1.2).2
    have gq := (hT.2.2 x2 h2.1 h2.2).2
    have nb := hT.2.1
    have pq : ypq (σ 209 1) 11 x1 x2 := Or.inr (Or.inl ⟨by decide, by decide, h1, h2⟩)
    have ed : ydp (σ 210) 11 x1 x2 = 1 + max (σ 210 (11 * x1 + 3)) (σ 210 (11 * x2 + 3)) := by
      unfold ydp; rw [if_neg (by decide), if_neg (by omega)]
    have eb : ybd (σ 210) 11 x1 x2 = 1 + max (σ 210 (11 * x1 + 4)) (σ 210 (11 * x2 + 4)) := by
      unfold ybd; rw [if_neg (by decide), if_neg (by omega), if_pos rfl, Int.add_comm]
    have hA := eX11_enough w 998 x1 x2 x3 x4 σ
    rw [yA1 w hI, Option.bind_some] at hA
    dsimp only at hA
    rw [zt_if, if_pos h1, yA1 w hI, Option.bind_some] at hA
    dsimp only at hA
    rw [zt_if, if_pos h2, s_200, Option.bind_some] at hA
    dsimp only at hA
    rw [zt_if, if_pos h3, s_200, Option.bind_some] at hA
    dsimp only at hA
    rw [zt_if, if_pos h4, s_119 w (by decide) hT hTb pq, Option.bind_some] at hA
    dsimp only at hA
    rw [zt_if, ed, eb] at hA
    have hB : ∀ σ' : zMem, σ' 209 1 = σ 209 1 → σ' 210 = σ 210 → zcall w 999 273 [zA 13 32 209, zI x1, zI x2, zI x3, zI x4] σ' = if 6 < 1 + max (σ 210 (11 * x1 + 3)) (σ 210 (11 * x2 + 3)) then (zcall w 998 214 [zA 13 32 209, zI (-65)] σ').bind fun r10 => some (r10.1, r10.2) else if 2 < 1 + max (σ 210 (11 * x1 + 4)) (σ 210 (11 * x2 + 4)) then (zcall w 998 214 [zA 13 32 209, zI (-65)] σ').bind fun r10 => some (r10.1, r10.2) else zden w 999 273 42 [zA 13 32 209, zI x1, zI x2, zI x3, zI x4, zI 0, zU, zU, zU, zU, zU, zU] [] σ' := by
      intro σ' a b
      have a' : 0 ≤ σ' 209 1 ∧ σ' 209 1 ≤ 24 := by rw [a]; exact ⟨hT.1, hT.2.1⟩
      refine (eX12_enough w 998 x1 x2 x3 x4 σ').trans ?_
      rw [s_218 w (by decide) x1 a', Option.bind_some]
      dsimp only
      rw [zt_if, a, if_pos h1, s_218 w (by decide) x2 a', Option.bind_some]
      dsimp only
      rw [zt_if, a, if_pos h2, s_213, Option.bind_some]
      dsimp only
      rw [zt_if, if_pos h3, s_213, Option.bind_some]
      dsimp only
      rw [zt_if, if_pos h4]
      have s3 := fun s (h : 0 ≤ s ∧ s < 24) => s_216 w 997 h (show (0 : Int) ≤ 3 ∧ (3 : Int) < 11 by decide) σ'
      have s4 := fun s (h : 0 ≤ s ∧ s < 24) => s_216 w 997 h (show (0 : Int) ≤ 4 ∧ (4 : Int) < 11 by decide) σ'
      have t3 : zcall w 998 272 [zA 13 32 209, zI x1, zI x2] σ' = some (1 + max (σ 210 (11 * x1 + 3)) (σ 210 (11 * x2 + 3)), σ') := by
        rw [eX12_deepOver, s3 x1 (by omega), Option.bind_some]
        dsimp only
        rw [s3 x2 (by omega), Option.bind_some]
        dsimp only
        rw [s_341, Option.bind_some, b, za_0, zw32_i (by omega)]
      have t4 : zcall w 998 271 [zA 13 32 209, zI x1, zI x2] σ' = some (1 + max (σ 210 (11 * x1 + 4)) (σ 210 (11 * x2 + 4)), σ') := by
        rw [eX12_blendsOver, s4 x1 (by omega), Option.bind_some]
        dsimp only
        rw [s4 x2 (by omega), Option.bind_some]
        dsimp only
        rw [s_341, Option.bind_some, b, za_0, zw32_i (by omega)]
      rw [t3, Option.bind_some]
      dsimp only
      rw [t4, Option.bind_some]
    by_cases c : 6 < 1 + max (σ 210 (11 * x1 + 3)) (σ 210 (11 * x2 + 3)) ∨ 2 < 1 + max (σ 210 (11 * x1 + 4)) (σ 210 (11 * x2 + 4))
    · rw [if_pos c, s_194 w 998 (n := -65) (by decide)] at hA
      have n1 : zrA σ (-65) 209 1 = σ 209 1 := zup_f (by omega)
      refine yop (-65) (zrA σ (-65)) (zrB (zrA σ (-65)) (-65)) hA ?_ (zref0 hI)
      rw [hB _ n1 (funext fun k => zup_f (by omega)), s_214 w 998 (n := -65) (by decide)]
      by_cases c6 : 6 < 1 + max (σ 210 (11 * x1 + 3)) (σ 210 (11 * x2 + 3))
      · rw [if_pos c6]; rfl
      · rw [if_neg c6, if_pos (by omega)]; rfl
    · obtain ⟨σ1, k1, k2, k3⟩ := s_179 w (d := 998) (by decide) hT hTb h1 h2 h3 (by omega) (by omega)
      have T1 : σ1 210 = σ 210 := funext fun k => k3 _ _ (by decide) (by decide)
      have n1 : σ1 209 1 = σ 209 1 := k3 _ _ (by decide) (by decide)
      rw [if_neg c, k1, Option.bind_some] at hA
      dsimp only at hA
      rw [l_178 w (d := 998) (c := fun j => (yct (yen (σ 210) x1 x2 x3 j) 4096 : Int)) h3 k2 (x3 + 1).toNat 0 (by decide) (by omega)] at hA
      have e2 := l_273 w (d := 998) (by decide) (N := σ 209 1) (σ := σ1) (p := x1) (q := x2) (n := x3) (many := x4) (by rw [T1]; exact hT) h1 h2 h3 (by rw [T1]; omega) (by rw [T1]; omega) (x3 + 1).toNat 0 zU zU zU zU (by decide) (by omega)
      rw [T1] at e2
      refine yop _ σ1 σ1 hA ((hB σ1 n1 T1).trans ?_) (zalk_I hI ?_)
      · rw [if_neg (by omega), if_neg (by omega)]
        exact e2
      · intro a k u
        refine k3 a k ?_ ?_ <;> (unfold zsX zsT zsC zsK zsB zsS zsP zsR at u; omega)
  · refine yop (-62) (zrA σ (-62)) (zrB (zrA σ (-62)) (-62)) ((eX11_enough w 998 x1 x2 x3 x4 σ).trans ?_) ((eX12_enough w 998 x1 x2 x3 x4 _).trans ?_) (zref0 hI)
    · rw [yA1 w hI, Option.bind_some]
      dsimp only
      rw [zt_if]
      by_cases u0 : 0 ≤ x1 ∧ x1 < σ 209 1
      · rw [if_pos (by omega)]
        rw [yA1 w hI, Option.bind_some]
        dsimp only
        rw [zt_if]
        by_cases u1 : 0 ≤ x2 ∧ x2 < σ 209 1
        · rw [if_pos (by omega)]
          rw [s_200, Option.bind_some]
          dsimp only
          rw [zt_if]
          by_cases u2 : 1 ≤ x3 ∧ x3 ≤ 9
          · rw [if_pos (by omega)]
            rw [s_200, Option.bind_some]
            dsimp only
            rw [zt_if]
            rw [if_neg (fun u => h ⟨u0, u1, u2, (by omega)⟩)]
            exact ybA w σ
          · rw [if_neg (by omega)]; exact ybA w σ
        · rw [if_neg (by omega)]; exact ybA w σ
      · rw [if_neg (by omega)]; exact ybA w σ
    · rw [yB1' w hI, Option.bind_some]
      dsimp only
      rw [zt_if]
      by_cases u0 : 0 ≤ x1 ∧ x1 < σ 209 1
      · rw [if_pos (by omega)]
        rw [yB1' w hI, Option.bind_some]
        dsimp only
        rw [zt_if]
        by_cases u1 : 0 ≤ x2 ∧ x2 < σ 209 1
        · rw [if_pos (by omega)]
          rw [s_213, Option.bind_some]
          dsimp only
          rw [zt_if]
          by_cases u2 : 1 ≤ x3 ∧ x3 ≤ 9
          · rw [if_pos (by omega)]
            rw [s_213, Option.bind_some]
            dsimp only
            rw [zt_if]
            rw [if_neg (fun u => h ⟨u0, u1, u2, (by omega)⟩)]
            exact ybB w _
          · rw [if_neg (by omega)]; exact ybB w _
        · rw [if_neg (by omega)]; exact ybB w _
      · rw [if_neg (by omega)]; exact ybB w _
end
