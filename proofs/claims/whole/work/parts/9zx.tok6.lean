section
/-! Call 9, shape: rows that are written behind the table -/
theorem s_115r (w : zW) (d : Nat) {s : Int} (σ : zMem) (h : s = -1 ∨ (0 ≤ s ∧ s < 88)) : zcall w d 115 [zA 10 8 2, zI s] σ = some (if s < 0 then 0 else σ 6 s, σ) ∧ zcall w d 117 [zA 10 8 2, zI s] σ = some (if s < 0 then 0 else σ 7 s, σ) ∧ zcall w d 116 [zA 10 8 2, zI s] σ = some (if s < 0 then 0 else σ 8 s, σ) := by
  rw [eX9_deepOf, eX9_blendsOf, eX9_solidsOf]
  have r1 : zR w 2 3 = 6 := rfl
  have r2 : zR w 2 4 = 7 := rfl
  have r3 : zR w 2 5 = 8 := rfl
  rcases h with rfl | h
  · exact ⟨rfl, rfl, rfl⟩
  · rw [if_neg (by omega), if_pos (by omega), if_pos (by omega), if_neg (by omega), if_neg (by omega), if_pos (by omega), if_pos (by omega), if_neg (by omega), if_neg (by omega), if_pos (by omega), if_pos (by omega), if_neg (by omega), r1, r2, r3]
    exact ⟨rfl, rfl, rfl⟩
/-- how deep, how many blends, how many solids over p and q -/
def qde (σ : zMem) (k p q : Int) : Int := if k ≤ 5 then 0 else 1 + max (if p < 0 then 0 else σ 6 p) (if q < 0 then 0 else σ 6 q)
def qbl (σ : zMem) (k p q : Int) : Int := (if k ≤ 5 then 0 else max (if p < 0 then 0 else σ 7 p) (if q < 0 then 0 else σ 7 q)) + (if k = 11 then 1 else 0)
def qso (σ : zMem) (k p q : Int) : Int := if k ≤ 5 then 1 else (if p < 0 then 0 else σ 8 p) + (if q < 0 then 0 else σ 8 q)
/-- what may be a part -/
def qpt (σ : zMem) (p : Int) : Prop := (0 ≤ p ∧ p < 88) ∧ (0 ≤ σ 6 p ∧ σ 6 p ≤ 6) ∧ (0 ≤ σ 7 p ∧ σ 7 p ≤ 2) ∧ 0 ≤ σ 8 p ∧ σ 8 p ≤ 2 ^ (σ 6 p).toNat
/-- of which parts a kind may be -/
def qkp (σ : zMem) (k p q : Int) : Prop := (3 ≤ k ∧ k ≤ 5 ∧ p = -1 ∧ q = -1) ∨ (8 ≤ k ∧ k ≤ 11 ∧ qpt σ p ∧ qpt σ q) ∨ (12 ≤ k ∧ k ≤ 17 ∧ qpt σ p ∧ q = -1)
theorem qpt_f {σ σ' : zMem} {p : Int} (h : σ' 6 p = σ 6 p) (g : σ' 7 p = σ 7 p) (f : σ' 8 p = σ 8 p) (t : qpt σ p) : qpt σ' p := by
  unfold qpt at *
  rw [h, g, f]; exact t
theorem q64 {x : Int} (h : 0 ≤ x ∧ x ≤ 6) : (2 : Int) ^ x.toNat ≤ 64 ∧ (1 : Int) ≤ 2 ^ x.toNat := by
  have : x = 0 ∨ x = 1 ∨ x = 2 ∨ x = 3 ∨ x = 4 ∨ x = 5 ∨ x = 6 := by omega
  rcases this with rfl | rfl | rfl | rfl | rfl | rfl | rfl <;> decide
theorem q2m {x y : Int} (hx : 0 ≤ x ∧ x ≤ 6) (hy : 0 ≤ y ∧ y ≤ 6) : (2 : Int) ^ x.toNat + 2 ^ y.toNat ≤ 2 ^ (1 + max x y).toNat := by
  have ex : x = 0 ∨ x = 1 ∨ x = 2 ∨ x = 3 ∨ x = 4 ∨ x = 5 ∨ x = 6 := by omega
  have ey : y = 0 ∨ y = 1 ∨ y = 2 ∨ y = 3 ∨ y = 4 ∨ y = 5 ∨ y = 6 := by omega
  rcases ex with rfl | rfl | rfl | rfl | rfl | rfl | rfl <;> rcases ey with rfl | rfl | rfl | rfl | rfl | rfl | rfl <;> decide
theorem q2s {x : Int} (hx : 0 ≤ x ∧ x ≤ 6) : (2 : Int) ^ x.toNat ≤ 2 ^ (1 + max x 0).toNat := by
  have : x = 0 ∨ x = 1 ∨ x = 2 ∨ x = 3 ∨ x = 4 ∨ x = 5 ∨ x = 6 := by omega
  rcases this with rfl | rfl | rfl | rfl | rfl | rfl | rfl <;> decide
theorem qkp_b {σ : zMem} {k p q : Int} (h : qkp σ k p q) : (0 ≤ qde σ k p q ∧ qde σ k p q ≤ 7) ∧ (0 ≤ qbl σ k p q ∧ qbl σ k p q ≤ 3) ∧ (0 ≤ qso σ k p q ∧ qso σ k p q ≤ 128) ∧ qso σ k p q ≤ 2 ^ (qde σ k p q).toNat ∧ (p = -1 ∨ (0 ≤ p ∧ p < 88)) ∧ (q = -1 ∨ (0 ≤ q ∧ q < 88)) ∧ ((k ≤ 5 ∧ p = -1 ∧ q = -1) ∨ (5 < k ∧ 0 ≤ p)) ∧ 3 ≤ k ∧ k ≤ 17 := by
  unfold qde qbl qso
  rcases h with ⟨a, b, rfl, rfl⟩ | ⟨a, b, ⟨p0, p6, p7, p8⟩, ⟨q0, q6, q7, q8⟩⟩ | ⟨a, b, ⟨p0, p6, p7, p8⟩, rfl⟩
  · simp only [if_pos b]
    exact ⟨by omega, by split <;> omega, by omega, by decide, Or.inl trivial, Or.inl trivial, Or.inl ⟨b, trivial, trivial⟩, by omega, by omega⟩
  · have n1 : ¬ k ≤ 5 := by omega
    have n2 : ¬ p < 0 := by omega
    have n3 : ¬ q < 0 := by omega
    simp only [if_neg n1, if_neg n2, if_neg n3]
    have u := q64 p6
    have v := q64 q6
    have z := q2m p6 q6
    exact ⟨by omega, by split <;> omega, by omega, by omega, by omega, by omega, by omega, by omega, by omega⟩
  · have n1 : ¬ k ≤ 5 := by omega
    have n2 : ¬ p < 0 := by omega
    have n3 : (-1 : Int) < 0 := by decide
    simp only [if_neg n1, if_neg n2, if_pos n3]
    have u := q64 p6
    have z := q2s p6
    exact ⟨by omega, by split <;> omega, by omega, by omega, by omega, Or.inl trivial, by omega, by omega, by omega⟩
theorem qkp_f {σ σ' : zMem} {k p q : Int} (h : ∀ s : Int, s = p ∨ s = q → 0 ≤ s → σ' 6 s = σ 6 s ∧ σ' 7 s = σ 7 s ∧ σ' 8 s = σ 8 s) (t : qkp σ k p q) : qkp σ' k p q ∧ qde σ' k p q = qde σ k p q ∧ qbl σ' k p q = qbl σ k p q ∧ qso σ' k p q = qso σ k p q := by
  have e : ∀ s : Int, s = p ∨ s = q → (if s < 0 then (0 : Int) else σ' 6 s) = (if s < 0 then 0 else σ 6 s) ∧ (if s < 0 then (0 : Int) else σ' 7 s) = (if s < 0 then 0 else σ 7 s) ∧ (if s < 0 then (0 : Int) else σ' 8 s) = (if s < 0 then 0 else σ 8 s) := by
    intro s u
    by_cases c : s < 0
    · simp only [if_pos c]; exact ⟨trivial, trivial, trivial⟩
    · simp only [if_neg c]; exact h s u (by omega)
  obtain ⟨p1, p2, p3⟩ := e p (Or.inl rfl)
  obtain ⟨q1, q2, q3⟩ := e q (Or.inr rfl)
  refine ⟨?_, by unfold qde; rw [p1, q1], by unfold qbl; rw [p2, q2], by unfold qso; rw [p3, q3]⟩
  rcases t with x | ⟨a, b, x, y⟩ | ⟨a, b, x, y⟩
  · exact Or.inl x
  · obtain ⟨h1, h2, h3⟩ := h p (Or.inl rfl) x.1.1
    obtain ⟨g1, g2, g3⟩ := h q (Or.inr rfl) y.1.1
    exact Or.inr (Or.inl ⟨a, b, qpt_f h1 h2 h3 x, qpt_f g1 g2 g3 y⟩)
  · obtain ⟨h1, h2, h3⟩ := h p (Or.inl rfl) x.1.1
    exact Or.inr (Or.inr ⟨a, b, qpt_f h1 h2 h3 x, y⟩)
theorem s_120r (w : zW) {d : Nat} (hd : 1 ≤ d) {k p q : Int} {σ : zMem} (h : qkp σ k p q) : zcall w d 120 [zA 10 8 2, zI k, zI p, zI q] σ = some (qde σ k p q, σ) ∧ zcall w d 121 [zA 10 8 2, zI k, zI p, zI q] σ = some (qbl σ k p q, σ) := by
  obtain ⟨d, rfl⟩ : ∃ e, d = e + 1 := ⟨d - 1, by omega⟩
  obtain ⟨b1, b2, b3, b4, hp, hq, hc, h3, h17⟩ := qkp_b h
  obtain ⟨p1, p2, -⟩ := s_115r w d σ hp
  obtain ⟨q1, q2, -⟩ := s_115r w d σ hq
  rw [eX9_deepOver, eX9_blendsOver]
  simp only [s_27, p1, q1, p2, q2, Option.bind_some, s_341, zt_if]
  unfold qde at b1 ⊢
  unfold qbl at b2 ⊢
  by_cases ck : k ≤ 5
  · have : p = -1 ∧ q = -1 := by omega
    obtain ⟨rfl, rfl⟩ := this
    rw [if_pos (by omega), if_pos ck, if_neg (by omega), if_pos ck, if_neg (show ¬ k = 11 by omega), if_pos (by decide)]
    exact ⟨rfl, by rw [za_0, zw32_i (by decide)]; rfl⟩
  · have h4 : ¬ (3 ≤ k ∧ k ≤ 5) := by omega
    rw [if_neg ck] at b1 b2
    rw [if_neg h4, if_neg ck, if_neg ck, za_0, za_0, za_0]
    generalize (if p < 0 then (0 : Int) else σ 6 p) = A at *
    generalize (if q < 0 then (0 : Int) else σ 6 q) = A' at *
    generalize (if p < 0 then (0 : Int) else σ 7 p) = C at *
    generalize (if q < 0 then (0 : Int) else σ 7 q) = C' at *
    refine ⟨by rw [zw32_i (by omega)], ?_⟩
    by_cases c : k = 11
    · rw [if_pos c] at b2
      rw [if_pos c, if_pos c, zw32_i (by omega), Int.add_comm]
    · rw [if_neg c] at b2
      rw [if_neg c, if_neg c, zw32_i (by omega), Int.add_comm]
theorem s_119r (w : zW) {d : Nat} (hd : 2 ≤ d) {k p q : Int} {σ : zMem} (h : qkp σ k p q) : zcall w d 119 [zA 10 8 2, zI k, zI p, zI q] σ = some (zt (6 < qde σ k p q ∨ 2 < qbl σ k p q), σ) := by
  obtain ⟨d, rfl⟩ : ∃ e, d = e + 1 := ⟨d - 1, by omega⟩
  obtain ⟨e1, e2⟩ := s_120r w (d := d) (by omega) h
  rw [eX9_isTooDeep, e1, Option.bind_some]
  dsimp only
  rw [e2, Option.bind_some, zt]
  dsimp only
  (repeat' split) <;> first | rfl | (exfalso; omega)
theorem l_122r (w : zW) (d : Nat) {n : Int} (hn : 0 ≤ n ∧ n < 88) {v2 v3 v4 : zV} : ∀ (m : Nat) (i : Int) (σ : zMem), 0 ≤ i → i + m = 6 →
    ∃ σ', zden w (d + 1) 122 57 [zA 10 8 2, zI n, v2, v3, v4, zA 20 6 84, zI i] [] σ = some (0, σ') ∧ (∀ t, i ≤ t → t < 6 → σ' 9 (6 * n + t) = σ 84 t) ∧ ∀ a t, (a ≠ 9 ∨ t < 6 * n + i ∨ 6 * n + 6 ≤ t) → σ' a t = σ a t := by
  have r9 : zR w 2 6 = 9 := rfl
  intro m
  induction m with
  | zero =>
    intro i σ h0 h
    rw [hX9_write_57, if_neg (by omega)]
    exact ⟨σ, rfl, fun t a b => by omega, fun _ _ _ => rfl⟩
  | succ m ih =>
    intro i σ h0 h
    have e1 : zar 0 i 1 = i + 1 := by rw [za_0, zw32_i (by omega)]
    have e2 : zar 0 (zar 2 n 6) i = 6 * n + i := by rw [za_2, zw32_i (by omega), za_0, zw32_i (by omega)]; omega
    obtain ⟨σ', k1, k2, k3⟩ := ih (i + 1) (zup σ 9 (6 * n + i) (σ 84 i)) (by omega) (by omega)
    rw [hX9_write_57, if_pos (by omega), if_pos (by omega), if_pos (by omega), e2, if_pos (by omega), e1, r9, k1]
    refine ⟨σ', rfl, fun t a b => ?_, fun a t u => ?_⟩
    · by_cases c : t = i
      · rw [c, k3 _ _ (by omega), zup_t ⟨rfl, rfl, by decide⟩]
      · rw [k2 t (by omega) b, zup_f (by omega)]
    · rw [k3 _ _ (by omega), zup_f (by omega)]
theorem s_122r (w : zW) {d : Nat} (hd : 2 ≤ d) {n k p q : Int} {σ : zMem} (hn : 0 ≤ n ∧ n < 88) (hpn : p ≠ n) (hqn : q ≠ n) (h : qkp σ k p q) :
    ∃ σ', zcall w d 122 [zA 10 8 2, zI n, zI k, zI p, zI q, zA 20 6 84] σ = some (0, σ') ∧ σ' 3 n = k ∧ σ' 4 n = p ∧ σ' 5 n = q ∧ σ' 6 n = qde σ k p q ∧ σ' 7 n = qbl σ k p q ∧ σ' 8 n = qso σ k p q ∧ (∀ t, 0 ≤ t → t < 6 → σ' 9 (6 * n + t) = σ 84 t)
      ∧ (∀ a t, ¬ (3 ≤ a ∧ a ≤ 9) → σ' a t = σ a t) ∧ (∀ a t, 3 ≤ a → a ≤ 8 → t ≠ n → σ' a t = σ a t) ∧ ∀ t, (t < 6 * n ∨ 6 * n + 6 ≤ t) → σ' 9 t = σ 9 t := by
  obtain ⟨d, rfl⟩ : ∃ e, d = e + 1 := ⟨d - 1, by omega⟩
  have r3 : zR w 2 0 = 3 := rfl
  have r4 : zR w 2 1 = 4 := rfl
  have r5 : zR w 2 2 = 5 := rfl
  have r6 : zR w 2 3 = 6 := rfl
  have r7 : zR w 2 4 = 7 := rfl
  have r8 : zR w 2 5 = 8 := rfl
  obtain ⟨b1, b2, b3, b4, hp, hq, hc, h3, h17⟩ := qkp_b h
  have ne : ∀ s : Int, s = p ∨ s = q → s ≠ n := fun s u => by rcases u with rfl | rfl <;> assumption
  obtain ⟨μ1, hμ1⟩ : ∃ μ1, μ1 = zup (zup (zup σ 3 n k) 4 n p) 5 n q := ⟨_, rfl⟩
  have f1 : ∀ a t, (a < 3 ∨ 5 < a ∨ t ≠ n) → μ1 a t = σ a t := fun a t u => by rw [hμ1, zup_f (by omega), zup_f (by omega), zup_f (by omega)]
  obtain ⟨t1, d1, -, -⟩ := qkp_f (σ' := μ1) (fun s u v => ⟨f1 _ _ (by omega), f1 _ _ (by omega), f1 _ _ (by omega)⟩) h
  have e1 := (s_120r w (d := d) (by omega) t1).1
  rw [d1] at e1
  obtain ⟨μ2, hμ2⟩ : ∃ μ2, μ2 = zup μ1 6 n (qde σ k p q) := ⟨_, rfl⟩
  have f2 : ∀ a t, (a ≠ 6 ∨ t ≠ n) → μ2 a t = μ1 a t := fun a t u => by rw [hμ2, zup_f (by omega)]
  have g2 : ∀ a t, (a < 3 ∨ 6 < a ∨ t ≠ n) → μ2 a t = σ a t := fun a t u => by rw [f2 _ _ (by omega), f1 _ _ (by omega)]
  obtain ⟨t2, -, d2, -⟩ := qkp_f (σ' := μ2) (fun s u v => ⟨g2 _ _ (Or.inr (Or.inr (ne s u))), g2 _ _ (by omega), g2 _ _ (by omega)⟩) h
  have e2 := (s_120r w (d := d) (by omega) t2).2
  rw [d2] at e2
  obtain ⟨μ3, hμ3⟩ : ∃ μ3, μ3 = zup μ2 7 n (qbl σ k p q) := ⟨_, rfl⟩
  have g3 : ∀ a t, (a < 3 ∨ 7 < a ∨ t ≠ n) → μ3 a t = σ a t := fun a t u => by rw [hμ3, zup_f (by omega), g2 _ _ (by omega)]
  obtain ⟨-, -, -, d3⟩ := qkp_f (σ' := μ3) (fun s u v => ⟨g3 _ _ (Or.inr (Or.inr (ne s u))), g3 _ _ (Or.inr (Or.inr (ne s u))), g3 _ _ (by omega)⟩) h
  obtain ⟨μ4, hμ4⟩ : ∃ μ4, μ4 = zup μ3 8 n (qso σ k p q) := ⟨_, rfl⟩
  have G : ∀ a t, (a < 3 ∨ 8 < a ∨ t ≠ n) → μ4 a t = σ a t := fun a t u => by rw [hμ4, zup_f (by omega), g3 _ _ (by omega)]
  obtain ⟨σ', k1, k2, k3⟩ := l_122r w d hn (v2 := zI k) (v3 := zI p) (v4 := zI q) 6 0 μ4 (by decide) (by decide)
  refine ⟨σ', ?_, ?_, ?_, ?_, ?_, ?_, ?_, fun t x y => ?_, fun a t u => ?_, fun a t u v x => ?_, fun t u => ?_⟩
  · rw [eX9_write, if_neg (by omega), if_pos (by omega), if_pos (by omega), if_pos (by omega), if_pos (by omega), r3, r4, r5, r6, r7, r8, ← hμ1, e1, Option.bind_some]
    dsimp only
    rw [if_pos (by omega), ← hμ2, e2, Option.bind_some]
    dsimp only
    rw [if_pos (by omega), ← hμ3, s_27, Option.bind_some]
    dsimp only
    rw [zt_if]
    by_cases ck : k ≤ 5
    · have es : qso σ k p q = 1 := if_pos ck
      rw [es] at hμ4
      rw [if_pos (by omega), if_pos (by omega), ← hμ4]
      exact k1
    · rw [if_neg (by omega), (s_115r w d μ3 hp).2.2, Option.bind_some]
      dsimp only
      rw [(s_115r w d μ3 hq).2.2, Option.bind_some]
      dsimp only
      have hm : zar 0 (if p < 0 then 0 else μ3 8 p) (if q < 0 then 0 else μ3 8 q) = qso σ k p q := by
        rw [← d3] at b3 ⊢
        unfold qso at b3 ⊢
        rw [if_neg ck] at b3 ⊢
        rw [za_0, zw32_i (by omega)]
      rw [if_pos (by omega), hm, ← hμ4]
      exact k1
  · rw [k3 _ _ (by omega), hμ4, zup_f (by omega), hμ3, zup_f (by omega), hμ2, zup_f (by omega), hμ1, zup_f (by omega), zup_f (by omega), zup_t ⟨rfl, rfl, by decide⟩]
  · rw [k3 _ _ (by omega), hμ4, zup_f (by omega), hμ3, zup_f (by omega), hμ2, zup_f (by omega), hμ1, zup_f (by omega), zup_t ⟨rfl, rfl, by decide⟩]
  · rw [k3 _ _ (by omega), hμ4, zup_f (by omega), hμ3, zup_f (by omega), hμ2, zup_f (by omega), hμ1, zup_t ⟨rfl, rfl, by decide⟩]
  · rw [k3 _ _ (by omega), hμ4, zup_f (by omega), hμ3, zup_f (by omega), hμ2, zup_t ⟨rfl, rfl, by decide⟩]
  · rw [k3 _ _ (by omega), hμ4, zup_f (by omega), hμ3, zup_t ⟨rfl, rfl, by decide⟩]
  · rw [k3 _ _ (by omega), hμ4, zup_t ⟨rfl, rfl, by decide⟩]
  · rw [k2 t x y, G _ _ (by omega)]
  · rw [k3 _ _ (by omega), G _ _ (by omega)]
  · rw [k3 _ _ (by omega), G _ _ (by omega)]
  · rw [k3 _ _ (by omega), G _ _ (by omega)]
end
