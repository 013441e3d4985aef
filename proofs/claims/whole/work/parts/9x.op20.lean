section
/-! A worth and bounds, told in lowest terms -/
theorem l_225 (w : zW) (d : Nat) (σ : zMem) : ∀ (m p q : Nat) (v0 v2 v8 : zV), q < m → zden w d 225 11 [v0, zU, v2, zU, zJ (p : Int), zU, zJ (q : Int), zU, v8, zU] [] σ = some ((Nat.gcd p q : Int), σ) := by
  intro m
  induction m with
  | zero => intro p q _ _ _ h; omega
  | succ m ih =>
    intro p q v0 v2 v8 h
    rw [hX12_common_11, zcmp_eq]
    by_cases c : q = 0
    · subst c
      rw [if_pos (by rfl), Nat.gcd_zero_right]
    · have e : zar 4 (p : Int) (q : Int) = ((p % q : Nat) : Int) := by rw [za_4]; exact (Int.ofNat_tmod p q).symm
      have : p % q < q := Nat.mod_lt _ (by omega)
      rw [if_neg (by omega), if_neg (by omega), e, ih _ _ _ _ _ (by omega), yg_s]
theorem s_225 (w : zW) (d : Nat) {x : Int} (hx : -9223372036854775808 < x ∧ x < 9223372036854775808) (σ : zMem) : zcall w d 225 [zJ x, zJ 16003008000] σ = some (zG x zONE, σ) := by
  have e : ((16003008000 : Nat) : Int) = 16003008000 := rfl
  have g : ((Nat.gcd x.natAbs 16003008000 : Nat) : Int) = zG x zONE := rfl
  rw [eX12_common, zcmp_lt, ← g]
  by_cases c : x < 0
  · have e1 : zar 16 x 0 = ((x.natAbs : Nat) : Int) := by rw [za_16, zw64_i (by omega)]; omega
    rw [if_pos c, e1]
    exact l_225 w d σ (16003008000 + 1) x.natAbs 16003008000 _ _ _ (by omega)
  · have e1 : x = ((x.natAbs : Nat) : Int) := by omega
    rw [if_neg c]
    generalize hn : x.natAbs = n at *
    rw [e1]
    exact l_225 w d σ (16003008000 + 1) n 16003008000 _ _ _ (by omega)
theorem s_226 (w : zW) {d : Nat} (hd : 1 ≤ d) {W n e b D : Int} (hf : yF W n e) (q : yQ b D W) (hD : 0 ≤ D ∧ D ≤ 6) (x : Int) (σ : zMem) : zcall w d 226 [zJ W, zI x] σ = some (if x = 0 then e else n, σ) := by
  obtain ⟨d, rfl⟩ : ∃ e, d = e + 1 := ⟨d - 1, by omega⟩
  obtain ⟨u1, u2⟩ := yF_u hf
  obtain ⟨c1, c2⟩ := yC_q hf q hD
  have m : (702768 + 99 * D) * zONE ≤ 703362 * 16003008000 := Int.mul_le_mul_of_nonneg_right (c := zONE) (show 702768 + 99 * D ≤ 703362 by omega) (by decide)
  have b1 := q.2.2
  have g0 : 0 < zG W zONE := by
    have : 0 < Int.gcd W zONE := Int.gcd_pos_of_ne_zero_right _ (by decide)
    unfold zG; omega
  have d1 : zG W zONE ∣ W := Int.gcd_dvd_left ..
  have d2 : zG W zONE ∣ zONE := Int.gcd_dvd_right ..
  have t1 : W.tdiv (zG W zONE) = n := by rw [Int.tdiv_eq_ediv_of_dvd d1, ← u1]
  have t2 : (16003008000 : Int).tdiv (zG W zONE) = e := by rw [u2]; exact Int.tdiv_eq_ediv_of_dvd d2
  rw [eX12_lowest, s_225 w d (by omega), Option.bind_some]
  dsimp only
  by_cases hx : x = 0
  · rw [if_pos hx, if_pos hx, if_neg (by omega), za_15, t2, zw64_i (by omega)]
  · rw [if_neg hx, if_neg hx, if_neg (by omega), za_15, t1, zw64_i (by omega)]
theorem s_42 (w : zW) {d : Nat} (hd : 20 ≤ d) {a : Int} (ha : a = 90 ∨ a = 173) {T : Int → Int} {n s x y z : Int} {σ : zMem} (hT : zWF T n) (h0 : 0 ≤ s) (h1 : s < n) (hTb : zTb 2 σ T n) (hx : -99 ≤ x ∧ x ≤ 99) (hy : -99 ≤ y ∧ y ≤ 99) (hz : -99 ≤ z ∧ z ≤ 99) :
    ∃ σ', zcall w d 42 [zA 5 2 a, zA 10 8 2, zI s, zI x, zI y, zI z] σ = some (a + 3, σ') ∧ yA σ' (a + 3) (zwd T 7 s x y z) ∧ ∀ c k, (c < a + 1 ∨ a + 10 < c) → σ' c k = σ c k := by
  obtain ⟨d, rfl⟩ : ∃ e, d = e + 1 := ⟨d - 1, by omega⟩
  obtain ⟨r1, r2⟩ := yr_1 w ha
  have r3 := yr_2 w ha (l := 0) (by decide)
  have g := (hT.2.2 s h0 h1).2
  have ha0 : a + 1 ≠ 0 := by omega
  obtain ⟨σ1, hσ1⟩ : ∃ σ1, σ1 = zup (zup (zup σ (a + 1) 0 x) (a + 1) 1 y) (a + 1) 2 z := ⟨_, rfl⟩
  have f1 : ∀ c k, c ≠ a + 1 → σ1 c k = σ c k := fun c k h => by rw [hσ1, zup_f (by omega), zup_f (by omega), zup_f (by omega)]
  obtain ⟨σ2, e2, u2, v2⟩ := s_43 w ha hT 7 d s 0 0 x y z σ1 (by omega) h0 h1 (by omega) (by decide) (by decide) (by omega) (zTb_fr (fun c k p q => f1 c k (by omega)) hTb)
    (by rw [hσ1, zup_f (by omega), zup_f (by omega), zup_t ⟨rfl, by omega, ha0⟩]) (by rw [hσ1, zup_f (by omega), zup_t ⟨rfl, by omega, ha0⟩]) (by rw [hσ1, zup_t ⟨rfl, by omega, ha0⟩]) (by omega) (by omega) (by omega)
  rw [eX4_worthAt, r1, r2, r3, ← hσ1, e2, Option.bind_some]
  rw [Int.add_zero] at u2 ⊢
  exact ⟨σ2, rfl, u2, fun c k h => (v2 c k (by omega) (by omega)).trans (f1 c k (by omega))⟩
theorem s_204 (w : zW) {d : Nat} (hd : 1 ≤ d) (x : Int) (σ : zMem) : zcall w d 204 [zI x] σ = some (zt (-99 ≤ x ∧ x ≤ 99), σ) := by
  obtain ⟨d, rfl⟩ : ∃ e, d = e + 1 := ⟨d - 1, by omega⟩
  rw [eX11_isNear]
  simp only [s_200, Option.bind_some, zt_01]
theorem yfar {n : Int} (h : -66 ≤ n ∧ n ≤ -62) : zar 12 n (-9000000000000) = n - 9000000000000 := by rw [za_12, zw64_i (by omega)]; omega
/-- in what stays true between calls, the measures and spans count for nothing -/
theorem zalk_s {σ σ' : zMem} (h : ∀ a k, a ≠ 88 → a ≠ 89 → ¬ (90 ≤ a ∧ a ≤ 121) → ¬ (169 ≤ a ∧ a ≤ 205) → ¬ (212 ≤ a ∧ a ≤ 222) → σ' a k = σ a k) : zalk σ σ' := fun a k q => h a k
  (by unfold zsX zsT zsC zsK zsB zsS zsP zsR at q; omega) (by unfold zsX zsT zsC zsK zsB zsS zsP zsR at q; omega) (by unfold zsX zsT zsC zsK zsB zsS zsP zsR at q; omega) (by unfold zsX zsT zsC zsK zsB zsS zsP zsR at q; omega) (by unfold zsX zsT zsC zsK zsB zsS zsP zsR at q; omega)
theorem op_20 (w : zW) (x1 x2 x3 x4 x5 : Int) : zOp zInv w 163 227 [zI x1, zI x2, zI x3, zI x4, zI x5] := by
  intro σ hI
  have hT := hI.2.1.1
  have hTb := hI.2.1.2
  have hn : 0 ≤ σ 209 1 ∧ σ 209 1 ≤ 24 := ⟨hT.1, hT.2.1⟩
  have e1 := eX11_worth w 998 x1 x2 x3 x4 x5 σ
  have e2 := eX12_worth w 998 x1 x2 x3 x4 x5
  have c7 : σ 2 7 = σ 209 1 := hTb.1
  by_cases h : (0 ≤ x1 ∧ x1 < σ 209 1) ∧ (-99 ≤ x2 ∧ x2 ≤ 99) ∧ (-99 ≤ x3 ∧ x3 ≤ 99) ∧ (-99 ≤ x4 ∧ x4 ≤ 99) ∧ 0 ≤ x5 ∧ x5 ≤ 1
  · obtain ⟨h1, h2, h3, h4, h5⟩ := h
    have g := (hT.2.2 x1 h1.1 h1.2).2
    obtain ⟨σ1, m1, m2, m3⟩ := s_42 w (d := 998) (by decide) (a := 173) (Or.inr rfl) hT h1.1 h1.2 hTb h2 h3 h4
    have q := yQ_wd hT 7 x1 x2 x3 x4 h1.1 h1.2 (by omega) (by omega) (by omega) (by omega)
    have E : σ1 210 = σ 210 := funext fun k => m3 _ _ (by decide)
    have n1 : σ1 209 1 = σ 209 1 := m3 _ _ (by decide)
    have f1 := s_219 w (n := σ 209 1) 7 998 x1 x2 x3 x4 σ1 (by rw [E]; exact hT) (by decide) h1.1 h1.2 (by rw [E]; omega) (by rw [E]; omega) (by rw [E]; omega) (by rw [E]; omega)
    rw [E] at f1
    have f2 := fun x => s_226 w (d := 998) (by decide) m2 q (by omega) x σ1
    refine yop (if x5 = 0 then σ1 176 0 else σ1 176 1) σ1 σ1 (e1.trans ?_) ((e2 σ1).trans ?_) (zalk_I hI (zalk_s fun a k _ _ _ _ _ => m3 a k (by omega)))
    · rw [s_197 w (by decide), Option.bind_some]
      dsimp only
      rw [zt_if, if_pos (by omega), s_204 w (by decide), Option.bind_some]
      dsimp only
      rw [zt_if, if_pos h2, s_204 w (by decide), Option.bind_some]
      dsimp only
      rw [zt_if, if_pos h3, s_204 w (by decide), Option.bind_some]
      dsimp only
      rw [zt_if, if_pos h4, s_200, Option.bind_some]
      dsimp only
      rw [zt_if, if_pos h5, m1, Option.bind_some]
      dsimp only
      rw [eX1_numerator, eX1_denominator]
      split <;> rfl
    · rw [s_218 w (by decide) _ (by rw [n1]; exact hn), Option.bind_some]
      dsimp only
      rw [zt_if, n1, if_pos h1, s_213, Option.bind_some]
      dsimp only
      rw [zt_if, if_pos h2, s_213, Option.bind_some]
      dsimp only
      rw [zt_if, if_pos h3, s_213, Option.bind_some]
      dsimp only
      rw [zt_if, if_pos h4, s_213, Option.bind_some]
      dsimp only
      rw [zt_if, if_pos h5, f1, Option.bind_some]
      dsimp only
      rw [f2, f2]
      split <;> rfl
  · refine yop (-62 - 9000000000000) (zrA σ (-62)) (zrB (zrA σ (-62)) (-62)) (e1.trans ?_) ((e2 _).trans ?_) (zref0 hI)
    · simp only [s_197 w (show 1 ≤ 998 by decide), s_204 w (show 1 ≤ 998 by decide), s_200, s_194 w 998 (n := -62) (by decide), Option.bind_some, zt_if, yfar (n := -62) (by decide), c7]
      (repeat' split) <;> first | rfl | (exfalso; omega)
    · have n1 : zrA σ (-62) 209 1 = σ 209 1 := zup_f (by omega)
      simp only [s_218 w (show 1 ≤ 998 by decide) x1 (show 0 ≤ zrA σ (-62) 209 1 ∧ zrA σ (-62) 209 1 ≤ 24 by rw [n1]; exact hn), s_213, s_215 w (show 1 ≤ 998 by decide) (n := -62) (by decide), Option.bind_some, zt_if, n1]
      (repeat' split) <;> first | rfl | (exfalso; omega)
theorem s_207 (w : zW) {d : Nat} (hd : 2 ≤ d) (x y : Int) (σ : zMem) : zcall w d 207 [zI x, zI y] σ = some (zt ((0 ≤ x ∧ x < 4096) ∧ (0 ≤ y ∧ y < 4096) ∧ zon x 0 ≤ zon y 0 ∧ zon x 1 ≤ zon y 1 ∧ zon x 2 ≤ zon y 2), σ) := by
  obtain ⟨d, rfl⟩ : ∃ e, d = e + 1 := ⟨d - 1, by omega⟩
  rw [eX11_isRegion, s_202, Option.bind_some]
  dsimp only
  rw [zt_if, s_202, Option.bind_some]
  dsimp only
  rw [zt_if]
  by_cases hx : 0 ≤ x ∧ x < 4096
  · by_cases hy : 0 ≤ y ∧ y < 4096
    · have st : ∀ i : Int, 0 ≤ i → i < 3 → zden w (d + 1) 207 10 [zI x, zI y, zI i] [] σ = if zon y i < zon x i then some (0, σ) else zden w (d + 1) 207 10 [zI x, zI y, zI (i + 1)] [] σ := by
        intro i i0 i1
        rw [kX11_isRegion_10, if_pos i1, s_209 w (by omega) hx ⟨i0, i1⟩, Option.bind_some]
        dsimp only
        rw [s_209 w (by omega) hy ⟨i0, i1⟩, Option.bind_some]
        dsimp only
        rw [za_0, zw32_i (by omega)]
      have st3 : zden w (d + 1) 207 10 [zI x, zI y, zI 3] [] σ = some (1, σ) := by rw [kX11_isRegion_10, if_neg (by decide)]
      rw [if_pos hx, if_pos hy, st 0 (by decide) (by decide), show (0 : Int) + 1 = 1 from rfl, st 1 (by decide) (by decide), show (1 : Int) + 1 = 2 from rfl, st 2 (by decide) (by decide), show (2 : Int) + 1 = 3 from rfl, st3, zt]
      (repeat' split) <;> first | rfl | (exfalso; omega)
    · rw [if_pos hx, if_neg hy, zt_n (by omega)]
  · rw [if_neg hx, zt_n (by omega)]
theorem s_97 (w : zW) {d : Nat} (hd : 20 ≤ d) {a : Int} (ha : a = 101 ∨ a = 184) {T : Int → Int} {n s : Int} {R : zrg} {σ : zMem} (hT : zWF T n) (h0 : 0 ≤ s) (h1 : s < n) (hTb : zTb 2 σ T n) (hR : yRg σ a 0 R) (hb : yrb 99 R) :
    ∃ σ', zcall w d 97 [zA 9 3 a, zA 10 8 2, zI s] σ = some (0, σ') ∧ yA2 σ' a 0 (zbd T 7 s R) ∧ ∀ c k, (c < a + 1 ∨ a + 19 < c) → σ' c k = σ c k := by
  obtain ⟨d, rfl⟩ : ∃ e, d = e + 1 := ⟨d - 1, by omega⟩
  have g := (hT.2.2 s h0 h1).2
  obtain ⟨σ2, e2, u2, v2⟩ := s_98 w ha hT 7 d s 0 0 R σ (by omega) h0 h1 (by omega) (by decide) (by decide) (by omega) hTb hR (yrb_i (by omega) hb)
  rw [eX8_findFor, e2]
  exact ⟨σ2, rfl, u2, fun c k h => v2 c k (by omega) (by omega)⟩
theorem s_93 (w : zW) (d : Nat) {a x y z u v t : Int} (ha : a = 101 ∨ a = 184) (σ : zMem) : ∃ σ1 σ2, zcall w d 93 [zA 9 3 a, zI x, zI y, zI z] σ = some (0, σ1) ∧ zcall w d 94 [zA 9 3 a, zI u, zI v, zI t] σ1 = some (0, σ2) ∧ yRg σ2 a 0 ((x, u), (y, v), (z, t)) ∧ ∀ c k, c ≠ a + 1 → σ2 c k = σ c k := by
  obtain ⟨r1, -, -⟩ := yq_1 w ha
  have ha0 : a + 1 ≠ 0 := by omega
  refine ⟨_, _, eX8_putFrom w d a x y z σ, eX8_putTo w d a u v t _, ?_, fun c k h => ?_⟩
  · rw [r1]
    refine ⟨⟨?_, ?_⟩, ⟨?_, ?_⟩, ?_, ?_⟩
    · rw [zup_f (by omega), zup_f (by omega), zup_f (by omega), zup_f (by omega), zup_f (by omega), zup_t ⟨rfl, by omega, ha0⟩]
    · rw [zup_f (by omega), zup_f (by omega), zup_t ⟨rfl, by omega, ha0⟩]
    · rw [zup_f (by omega), zup_f (by omega), zup_f (by omega), zup_f (by omega), zup_t ⟨rfl, by omega, ha0⟩]
    · rw [zup_f (by omega), zup_t ⟨rfl, by omega, ha0⟩]
    · rw [zup_f (by omega), zup_f (by omega), zup_f (by omega), zup_t ⟨rfl, by omega, ha0⟩]
    · rw [zup_t ⟨rfl, by omega, ha0⟩]
  · rw [r1, zup_f (by omega), zup_f (by omega), zup_f (by omega), zup_f (by omega), zup_f (by omega), zup_f (by omega)]
end
