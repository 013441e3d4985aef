section
/-! Call 9, shape: what was read comes into the table of the reference -/
theorem l_281r (w : zW) (d : Nat) {n k f : Int} (hn : 0 ≤ n ∧ n < 24) (hf : 0 ≤ f ∧ f + 6 ≤ 770) {v2 v3 v4 v5 : zV} : ∀ (m : Nat) (i : Int) (σ : zMem), 0 ≤ i → i + m = 6 →
    ∃ σ', zden w (d + 1) 281 42 [zA 13 32 209, zI k, v2, v3, v4, v5, zA 20 770 224, zI f, zI n, zI (11 * n), zI i] [] σ = some (n, σ') ∧ (∀ t, i ≤ t → t < 6 → t < zno k → σ' 210 (11 * n + 5 + t) = σ 224 (f + t)) ∧ σ' 209 1 = n + 1 ∧ ∀ a t, (a ≠ 210 ∨ t < 11 * n + 5 + i) → (a ≠ 209 ∨ t ≠ 1) → σ' a t = σ a t := by
  intro m
  induction m with
  | zero =>
    intro i σ h0 h
    have e1 : zar 0 n 1 = n + 1 := by rw [za_0, zw32_i (by omega)]
    refine ⟨zup σ 209 1 (n + 1), ?_, fun t a b => by omega, zup_t ⟨rfl, rfl, by decide⟩, fun a t u v => zup_f (by omega)⟩
    rw [hX12_comes_42, if_neg (by omega), e1]
  | succ m ih =>
    intro i σ h0 h
    have e1 : zar 0 i 1 = i + 1 := by rw [za_0, zw32_i (by omega)]
    have e2 : zar 0 f i = f + i := by rw [za_0, zw32_i (by omega)]
    have e3 : zar 0 (zar 0 (11 * n) 5) i = 11 * n + 5 + i := by rw [za_0 (11 * n), zw32_i (by omega), za_0, zw32_i (by omega)]
    have st : ∀ v : Int, (i < zno k → v = σ 224 (f + i)) → ∃ σ', zden w (d + 1) 281 42 [zA 13 32 209, zI k, v2, v3, v4, v5, zA 20 770 224, zI f, zI n, zI (11 * n), zI (i + 1)] [] (zup σ 210 (11 * n + 5 + i) v) = some (n, σ') ∧ (∀ t, i ≤ t → t < 6 → t < zno k → σ' 210 (11 * n + 5 + t) = σ 224 (f + t)) ∧ σ' 209 1 = n + 1 ∧ ∀ a t, (a ≠ 210 ∨ t < 11 * n + 5 + i) → (a ≠ 209 ∨ t ≠ 1) → σ' a t = σ a t := by
      intro v hv
      obtain ⟨σ', k1, k2, k3, k4⟩ := ih (i + 1) (zup σ 210 (11 * n + 5 + i) v) (by omega) (by omega)
      refine ⟨σ', k1, fun t a b c => ?_, k3, fun a t u v => (k4 a t (by omega) v).trans (zup_f (by omega))⟩
      by_cases e : t = i
      · rw [e, k4 _ _ (by omega) (by omega), zup_t ⟨rfl, rfl, by decide⟩]; exact hv (by omega)
      · rw [k2 t (by omega) b c, zup_f (by omega)]
    rw [hX12_comes_42, if_pos (by omega), s_276, Option.bind_some]
    dsimp only
    rw [e1, e2, e3]
    by_cases c : i < zno k
    · rw [if_pos c, if_pos (by omega), if_pos (by omega)]
      exact st _ (fun _ => rfl)
    · rw [if_neg c, if_pos (by omega)]
      exact st _ (fun u => absurd u c)
theorem s_281r (w : zW) {d : Nat} (hd : 1 ≤ d) {n k p q de bl f : Int} {σ : zMem} (hn : 0 ≤ n ∧ n < 24) (hf : 0 ≤ f ∧ f + 6 ≤ 770) (e : σ 209 1 = n) :
    ∃ σ', zcall w d 281 [zA 13 32 209, zI k, zI p, zI q, zI de, zI bl, zA 20 770 224, zI f] σ = some (n, σ') ∧ σ' 210 (11 * n) = k ∧ σ' 210 (11 * n + 1) = p ∧ σ' 210 (11 * n + 2) = q ∧ σ' 210 (11 * n + 3) = de ∧ σ' 210 (11 * n + 4) = bl ∧ (∀ t, 0 ≤ t → t < zno k → σ' 210 (11 * n + 5 + t) = σ 224 (f + t))
      ∧ σ' 209 1 = n + 1 ∧ (∀ t, t < 11 * n → σ' 210 t = σ 210 t) ∧ ∀ a t, a ≠ 210 → (a ≠ 209 ∨ t ≠ 1) → σ' a t = σ a t := by
  obtain ⟨d, rfl⟩ : ∃ e, d = e + 1 := ⟨d - 1, by omega⟩
  have m0 : zar 2 11 n = 11 * n := by rw [za_2, zw32_i (by omega)]
  have m1 : ∀ t : Int, 0 ≤ t → t < 11 → zar 0 (11 * n) t = 11 * n + t := fun t a b => by rw [za_0, zw32_i (by omega)]
  obtain ⟨μ, hμ⟩ : ∃ μ, μ = zup (zup (zup (zup (zup σ 210 (11 * n) k) 210 (11 * n + 1) p) 210 (11 * n + 2) q) 210 (11 * n + 3) de) 210 (11 * n + 4) bl := ⟨_, rfl⟩
  have g : ∀ a t, (a ≠ 210 ∨ t < 11 * n ∨ 11 * n + 5 ≤ t) → μ a t = σ a t := fun a t u => by rw [hμ, zup_f (by omega), zup_f (by omega), zup_f (by omega), zup_f (by omega), zup_f (by omega)]
  have hz := zno_b6 k
  obtain ⟨σ', k1, k2, k2', k3⟩ := l_281r w d hn hf (k := k) (v2 := zI p) (v3 := zI q) (v4 := zI de) (v5 := zI bl) 6 0 μ (by decide) (by decide)
  refine ⟨σ', ?_, ?_, ?_, ?_, ?_, ?_, fun t a b => ?_, k2', fun t u => ?_, fun a t u v => ?_⟩
  · rw [eX12_comes, e, m0, m1 1 (by decide) (by decide), m1 2 (by decide) (by decide), m1 3 (by decide) (by decide), m1 4 (by decide) (by decide), if_pos (by omega), if_pos (by omega), if_pos (by omega), if_pos (by omega), if_pos (by omega), ← hμ]
    exact k1
  · rw [k3 _ _ (by omega) (by omega), hμ, zup_f (by omega), zup_f (by omega), zup_f (by omega), zup_f (by omega), zup_t ⟨rfl, rfl, by decide⟩]
  · rw [k3 _ _ (by omega) (by omega), hμ, zup_f (by omega), zup_f (by omega), zup_f (by omega), zup_t ⟨rfl, rfl, by decide⟩]
  · rw [k3 _ _ (by omega) (by omega), hμ, zup_f (by omega), zup_f (by omega), zup_t ⟨rfl, rfl, by decide⟩]
  · rw [k3 _ _ (by omega) (by omega), hμ, zup_f (by omega), zup_t ⟨rfl, rfl, by decide⟩]
  · rw [k3 _ _ (by omega) (by omega), hμ, zup_t ⟨rfl, rfl, by decide⟩]
  · rw [k2 t a (by omega) b, g _ _ (by omega)]
  · rw [k3 _ _ (by omega) (by omega), g _ _ (by omega)]
  · rw [k3 _ _ (by omega) v, g _ _ (by omega)]
/-- a row of the reference's table, out of what was read -/
def qrT (b : Int) (T R : Int → Int) (s : Int) : Prop := T (11 * (b + s)) = R (11 * s) ∧ T (11 * (b + s) + 1) = (if R (11 * s + 1) < 0 then -1 else b + R (11 * s + 1)) ∧ T (11 * (b + s) + 2) = (if R (11 * s + 2) < 0 then -1 else b + R (11 * s + 2)) ∧ T (11 * (b + s) + 3) = R (11 * s + 3) ∧ T (11 * (b + s) + 4) = R (11 * s + 4)
  ∧ ∀ t, 0 ≤ t → t < zno (R (11 * s)) → T (11 * (b + s) + 5 + t) = R (11 * s + 5 + t)
theorem l_306 (w : zW) {d : Nat} (hd : 1 ≤ d) {b r : Int} {R : Int → Int} {v1 v2 : zV} (hb : 0 ≤ b) (hr : 0 ≤ r) (hbr : b + r ≤ 24) (hR : ∀ s, 0 ≤ s → s < r → R (11 * s + 1) < 69 ∧ R (11 * s + 2) < 69) : ∀ (m : Nat) (s la : Int) (v6 : zV) (σ : zMem), 0 ≤ s → s + m = r → σ 209 1 = b + s → σ 209 17 = r → σ 224 = R → (s = 0 ∨ la = b + s - 1) → 0 < r →
    ∃ σ', zden w (d + 1) 306 56 [zA 13 32 209, v1, v2, zI b, zI la, zI s, v6] [] σ = some (b + r - 1, σ') ∧ σ' 209 1 = b + r ∧ (∀ t, s ≤ t → t < r → qrT b (σ' 210) R t) ∧ (∀ t, t < 11 * (b + s) → σ' 210 t = σ 210 t) ∧ ∀ a t, a ≠ 210 → (a ≠ 209 ∨ t ≠ 1) → σ' a t = σ a t := by
  intro m
  induction m with
  | zero =>
    intro s la v6 σ h0 h e1 e17 eR hl hr0
    refine ⟨σ, ?_, by omega, fun t x y => by omega, fun _ _ => rfl, fun _ _ _ _ => rfl⟩
    rw [hX12_shape_56, e17, if_neg (by omega), show la = b + r - 1 by omega]
  | succ m ih =>
    intro s la v6 σ h0 h e1 e17 eR hl hr0
    obtain ⟨R1, R2⟩ := hR s h0 (by omega)
    have z0 : zar 2 11 s = 11 * s := by rw [za_2, zw32_i (by omega)]
    have z1 : ∀ t : Int, 0 ≤ t → t < 11 → zar 0 (11 * s) t = 11 * s + t := fun t a b => by rw [za_0, zw32_i (by omega)]
    have zs : zar 0 s 1 = s + 1 := by rw [za_0, zw32_i (by omega)]
    have zb : ∀ x : Int, ¬ x < 0 → x < 69 → zar 0 b x = b + x := fun x a c => by rw [za_0, zw32_i (by omega)]
    obtain ⟨P, hP⟩ : ∃ P, P = (if R (11 * s + 1) < 0 then -1 else b + R (11 * s + 1)) := ⟨_, rfl⟩
    obtain ⟨Q, hQ⟩ : ∃ Q, Q = (if R (11 * s + 2) < 0 then -1 else b + R (11 * s + 2)) := ⟨_, rfl⟩
    obtain ⟨σ1, k1, k2, k3, k4, k5, k6, k7, k8, k9, kA⟩ := s_281r w hd (n := b + s) (k := R (11 * s)) (p := P) (q := Q) (de := R (11 * s + 3)) (bl := R (11 * s + 4)) (f := 11 * s + 5) (σ := σ) (by omega) (by omega) e1
    rw [eR] at k7
    obtain ⟨σ', j1, j2, j3, j4, j5⟩ := ih (s + 1) (b + s) (zI (11 * s)) σ1 (by omega) (by omega) (by omega) ((kA _ _ (by decide) (by omega)).trans e17) ((funext fun t => kA _ _ (by decide) (by omega)).trans eR) (by omega) hr0
    refine ⟨σ', ?_, j2, fun t x y => ?_, fun t u => (j4 t (by omega)).trans (k9 t (by omega)), fun a t u v => (j5 a t u v).trans (kA a t u v)⟩
    · rw [← j1, hX12_shape_56, e17, if_pos (by omega), z0, z1 1 (by decide) (by decide), z1 2 (by decide) (by decide), z1 3 (by decide) (by decide), z1 4 (by decide) (by decide), z1 5 (by decide) (by decide)]
      simp only [eR]
      rw [if_pos (show (0 : Int) ≤ 11 * s ∧ 11 * s < 770 by omega), if_pos (show (0 : Int) ≤ 11 * s + 1 ∧ 11 * s + 1 < 770 by omega)]
      by_cases c1 : R (11 * s + 1) < 0
      · rw [if_pos c1] at hP
        rw [if_pos c1, if_pos (show (0 : Int) ≤ 11 * s + 2 ∧ 11 * s + 2 < 770 by omega)]
        by_cases c2 : R (11 * s + 2) < 0
        · rw [if_pos c2] at hQ
          rw [if_pos c2, if_pos (show (0 : Int) ≤ 11 * s + 3 ∧ 11 * s + 3 < 770 by omega), if_pos (show (0 : Int) ≤ 11 * s + 4 ∧ 11 * s + 4 < 770 by omega), ← hP, ← hQ.trans hP.symm, hQ.trans hP.symm, zs]
          rw [hQ, ← hP] at k1
          rw [k1, Option.bind_some]
        · rw [if_neg c2] at hQ
          rw [if_neg c2, if_pos (show (0 : Int) ≤ 11 * s + 2 ∧ 11 * s + 2 < 770 by omega), if_pos (show (0 : Int) ≤ 11 * s + 3 ∧ 11 * s + 3 < 770 by omega), if_pos (show (0 : Int) ≤ 11 * s + 4 ∧ 11 * s + 4 < 770 by omega), zb _ c2 R2, ← hQ, ← hP, k1, Option.bind_some, zs]
      · rw [if_neg c1] at hP
        rw [if_neg c1, if_pos (show (0 : Int) ≤ 11 * s + 1 ∧ 11 * s + 1 < 770 by omega), if_pos (show (0 : Int) ≤ 11 * s + 2 ∧ 11 * s + 2 < 770 by omega), zb _ c1 R1]
        by_cases c2 : R (11 * s + 2) < 0
        · rw [if_pos c2] at hQ
          rw [if_pos c2, if_pos (show (0 : Int) ≤ 11 * s + 3 ∧ 11 * s + 3 < 770 by omega), if_pos (show (0 : Int) ≤ 11 * s + 4 ∧ 11 * s + 4 < 770 by omega), ← hP, ← hQ, k1, Option.bind_some, zs]
        · rw [if_neg c2] at hQ
          rw [if_neg c2, if_pos (show (0 : Int) ≤ 11 * s + 2 ∧ 11 * s + 2 < 770 by omega), if_pos (show (0 : Int) ≤ 11 * s + 3 ∧ 11 * s + 3 < 770 by omega), if_pos (show (0 : Int) ≤ 11 * s + 4 ∧ 11 * s + 4 < 770 by omega), zb _ c2 R2, ← hQ, ← hP, k1, Option.bind_some, zs]
    · by_cases ts : t = s
      · rw [ts]
        have lo := fun i (u : i < 11 * (b + (s + 1))) => j4 i u
        have zz := zno_b6 (R (11 * s))
        refine ⟨(lo _ (by omega)).trans k2, ((lo _ (by omega)).trans k3).trans hP, ((lo _ (by omega)).trans k4).trans hQ, (lo _ (by omega)).trans k5, (lo _ (by omega)).trans k6, fun j x y => (lo _ (by omega)).trans (k7 j x y)⟩
      · exact j3 t (by omega) y
end
