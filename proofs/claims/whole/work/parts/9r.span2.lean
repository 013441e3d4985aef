section
/-! The class' bounds: pairs, amounts, regions that move -/
theorem yA2_c {σ σ' : zMem} {a l m : Int} {W : Int × Int} (h : ∀ k, σ' (a + 4 + 2 * m) k = σ (a + 4 + 2 * l) k) (g : ∀ k, σ' (a + 5 + 2 * m) k = σ (a + 5 + 2 * l) k) (t : yA2 σ a l W) : yA2 σ' a m W := ⟨yA_c (h 0) (h 1) t.1, yA_c (g 0) (g 1) t.2⟩
/-- both ends of a level become those of the next -/
theorem s_take2 (w : zW) (d : Nat) {a l : Int} (ha : a = 101 ∨ a = 184) (hl : 0 ≤ l ∧ l < 7) {W : Int × Int} {σ : zMem} (h : yA2 σ a (l + 1) W) :
    ∃ σ1 σ2, zcall w d 18 [zA 2 2 (a + 4 + 2 * l), zA 2 2 (a + 4 + 2 * (l + 1))] σ = some (0, σ1) ∧ zcall w d 18 [zA 2 2 (a + 5 + 2 * l), zA 2 2 (a + 5 + 2 * (l + 1))] σ1 = some (0, σ2) ∧ yA2 σ2 a l W ∧ yK2 σ σ2 (a + 4 + 2 * l) (a + 5 + 2 * l) := by
  obtain ⟨σ1, e1, u1, v1⟩ := s_18 w d (f := a + 4 + 2 * l) (by omega) (show a + 4 + 2 * (l + 1) ≠ a + 4 + 2 * l by omega) h.1
  obtain ⟨σ2, e2, u2, v2⟩ := s_18 w d (f := a + 5 + 2 * l) (by omega) (show a + 5 + 2 * (l + 1) ≠ a + 5 + 2 * l by omega) (yA_c (v1 _ _ (by omega)) (v1 _ _ (by omega)) h.2)
  exact ⟨σ1, σ2, e1, e2, ⟨yA_c (v2 _ _ (by omega)) (v2 _ _ (by omega)) u1, u2⟩, fun c k h g => (v2 c k g).trans (v1 c k h)⟩
theorem s_102k (w : zW) {d : Nat} (hd : 3 ≤ d) {a l : Int} (ha : a = 101 ∨ a = 184) (hl : 0 ≤ l ∧ l < 7) {σ : zMem} {T N : Int → Int} {s b D k : Int} {W V : Int × Int} (v3 v5 v6 : zV) (t : yTs σ T s) (eK : T (11 * s) = k) (hk : 8 ≤ k ∧ k ≤ 11) (eN : ∀ j, T (11 * s + 5 + j) = N j) (hN : zNV k N)
    (hD : 0 ≤ D ∧ D ≤ 6) (hb : 0 ≤ b) (hb2 : k = 11 → b ≤ 1) (hW : yA2 σ a l W) (qW : yQ2 b D W) (hV : yA2 σ a (l + 1) V) (qV : yQ2 b D V) :
    ∃ σ', (if k = 8 then zden w (d + 1) 102 67 [zA 9 3 a, zA 10 8 2, zI s, v3, zI l, v5, v6, zA 2 2 (a + 4 + 2 * (l + 1)), zA 2 2 (a + 5 + 2 * (l + 1))] [] σ else if k = 9 then zden w (d + 1) 102 80 [zA 9 3 a, zA 10 8 2, zI s, v3, zI l, v5, v6, zA 2 2 (a + 4 + 2 * (l + 1)), zA 2 2 (a + 5 + 2 * (l + 1))] [] σ
      else if k = 10 then zden w (d + 1) 102 93 [zA 9 3 a, zA 10 8 2, zI s, v3, zI l, v5, v6, zA 2 2 (a + 4 + 2 * (l + 1)), zA 2 2 (a + 5 + 2 * (l + 1))] [] σ else zden w (d + 1) 102 110 [zA 9 3 a, zA 10 8 2, zI s, v3, zI l, v5, v6, zA 2 2 (a + 4 + 2 * (l + 1)), zA 2 2 (a + 5 + 2 * (l + 1))] [] σ) = some (0, σ')
      ∧ yA2 σ' a l (zpb k (N 0) (N 1) W V) ∧ ∀ c j, (c < a + 4 + 2 * l ∨ a + 7 + 2 * l < c) → σ' c j = σ c j := by
  obtain ⟨-, h2, h3⟩ := yq_1 w ha
  obtain ⟨h4, h5⟩ := yq_2 w ha (l := l) (by omega)
  have : k = 8 ∨ k = 9 ∨ k = 10 ∨ k = 11 := by omega
  rcases this with rfl | rfl | rfl | rfl
  · obtain ⟨σ1, e1, x1, y1⟩ := s_19 w (d := d) (by omega) (f := a + 4 + 2 * l) (by omega) (show a + 4 + 2 * (l + 1) ≠ a + 4 + 2 * l by omega) hD hW.1 qW.1 hV.1 qV.1
    obtain ⟨σ2, e2, x2, y2⟩ := s_19 w (d := d) (by omega) (f := a + 5 + 2 * l) (by omega) (show a + 5 + 2 * (l + 1) ≠ a + 5 + 2 * l by omega) hD (yA_c (y1 _ _ (by omega)) (y1 _ _ (by omega)) hW.2) qW.2 (yA_c (y1 _ _ (by omega)) (y1 _ _ (by omega)) hV.2) qV.2
    rw [if_pos rfl, hX8_ofPair_67, if_pos (by omega), h2, h3, h4, h5, e1, Option.bind_some]
    dsimp only
    rw [if_pos (by omega), e2]
    exact ⟨σ2, rfl, ⟨yA_c (y2 _ _ (by omega)) (y2 _ _ (by omega)) x1, x2⟩, fun c j h => (y2 c j (by omega)).trans (y1 c j (by omega))⟩
  · obtain ⟨σ1, e1, x1, y1⟩ := s_20 w (d := d) (by omega) (f := a + 4 + 2 * l) (by omega) (show a + 4 + 2 * (l + 1) ≠ a + 4 + 2 * l by omega) hD hW.1 qW.1 hV.1 qV.1
    obtain ⟨σ2, e2, x2, y2⟩ := s_20 w (d := d) (by omega) (f := a + 5 + 2 * l) (by omega) (show a + 5 + 2 * (l + 1) ≠ a + 5 + 2 * l by omega) hD (yA_c (y1 _ _ (by omega)) (y1 _ _ (by omega)) hW.2) qW.2 (yA_c (y1 _ _ (by omega)) (y1 _ _ (by omega)) hV.2) qV.2
    rw [if_neg (by decide), if_pos rfl, hX8_ofPair_80, if_pos (by omega), h2, h3, h4, h5, e1, Option.bind_some]
    dsimp only
    rw [if_pos (by omega), e2]
    exact ⟨σ2, rfl, ⟨yA_c (y2 _ _ (by omega)) (y2 _ _ (by omega)) x1, x2⟩, fun c j h => (y2 c j (by omega)).trans (y1 c j (by omega))⟩
  · obtain ⟨σ1, e1, x1, y1⟩ := s_22 w d (f := a + 4 + 2 * (l + 1)) (by omega) hD hV.1 qV.1
    obtain ⟨σ2, e2, x2, y2⟩ := s_22 w d (f := a + 5 + 2 * (l + 1)) (by omega) hD (yA_c (y1 _ _ (by omega)) (y1 _ _ (by omega)) hV.2) qV.2
    obtain ⟨σ3, e3, x3, y3⟩ := s_20 w (d := d) (by omega) (f := a + 4 + 2 * l) (by omega) (show a + 5 + 2 * (l + 1) ≠ a + 4 + 2 * l by omega) hD (yA_c ((y2 _ _ (by omega)).trans (y1 _ _ (by omega))) ((y2 _ _ (by omega)).trans (y1 _ _ (by omega))) hW.1) qW.1 x2 (yQ_neg qV.2)
    obtain ⟨σ4, e4, x4, y4⟩ := s_20 w (d := d) (by omega) (f := a + 5 + 2 * l) (by omega) (show a + 4 + 2 * (l + 1) ≠ a + 5 + 2 * l by omega) hD (yA_c ((y3 _ _ (by omega)).trans ((y2 _ _ (by omega)).trans (y1 _ _ (by omega)))) ((y3 _ _ (by omega)).trans ((y2 _ _ (by omega)).trans (y1 _ _ (by omega)))) hW.2) qW.2 (yA_c ((y3 _ _ (by omega)).trans (y2 _ _ (by omega))) ((y3 _ _ (by omega)).trans (y2 _ _ (by omega))) x1) (yQ_neg qV.1)
    rw [if_neg (by decide), if_neg (by decide), if_pos rfl, hX8_ofPair_93, e1, Option.bind_some]
    dsimp only
    rw [e2, Option.bind_some]
    dsimp only
    rw [if_pos (by omega), h2, h3, h4, h5, e3, Option.bind_some]
    dsimp only
    rw [if_pos (by omega), e4]
    exact ⟨σ4, rfl, ⟨yA_c (y4 _ _ (by omega)) (y4 _ _ (by omega)) x3, x4⟩, fun c j h => (y4 c j (by omega)).trans ((y3 c j (by omega)).trans ((y2 c j (by omega)).trans (y1 c j (by omega))))⟩
  · have v := yV11 hN
    have n0 := s_118 w d (k := 0) t (by decide) (by rw [eK]; decide)
    have n1 := s_118 w d (k := 1) t (by decide) (by rw [eK]; decide)
    rw [eN] at n0 n1
    obtain ⟨σ1, e1, x1, y1⟩ := s_25 w (d := d) (by omega) (f := a + 4 + 2 * l) (by omega) hD ⟨hb, hb2 rfl⟩ hW.1 qW.1 hV.1 qV.1 v.1 v.2
    have t1 : yTs σ1 T s := yTs_c (fun c j g1 g2 => y1 c j (by omega)) t
    have m0 := s_118 w d (k := 0) t1 (by decide) (by rw [eK]; decide)
    have m1 := s_118 w d (k := 1) t1 (by decide) (by rw [eK]; decide)
    rw [eN] at m0 m1
    obtain ⟨σ2, e2, x2, y2⟩ := s_25 w (d := d) (by omega) (f := a + 5 + 2 * l) (by omega) hD ⟨hb, hb2 rfl⟩ (yA_c (y1 _ _ (by omega)) (y1 _ _ (by omega)) hW.2) qW.2 (yA_c (y1 _ _ (by omega)) (y1 _ _ (by omega)) hV.2) qV.2 v.1 v.2
    rw [if_neg (by decide), if_neg (by decide), if_neg (by decide), hX8_ofPair_110, if_pos (by omega), n0, Option.bind_some]
    dsimp only
    rw [n1, Option.bind_some]
    dsimp only
    rw [h2, h3, h4, h5, e1, Option.bind_some]
    dsimp only
    rw [if_pos (by omega), m0, Option.bind_some]
    dsimp only
    rw [m1, Option.bind_some]
    dsimp only
    rw [e2]
    exact ⟨σ2, rfl, ⟨yA_c (y2 _ _ (by omega)) (y2 _ _ (by omega)) x1, x2⟩, fun c j h => (y2 c j (by omega)).trans (y1 c j (by omega))⟩
theorem s_21 (w : zW) (d : Nat) {f g W V : Int} (hf : f ≠ 0) (hg : g ≠ 0) (n : g ≠ f) {σ : zMem} (h : yA σ f W) (h' : yA σ g V) : ∃ σ', zcall w d 21 [zA 2 2 f, zA 2 2 g] σ = some (0, σ') ∧ yA σ' f V ∧ yA σ' g W ∧ yK2 σ σ' f g := by
  refine ⟨_, eX1_changeWith w d f g σ, ?_, ?_, fun c k x y => ?_⟩
  · unfold yA
    rw [zup_f (Or.inl (Ne.symm n)), zup_f (Or.inl (Ne.symm n)), zup_f (Or.inr (by decide)), zup_t ⟨rfl, rfl, hf⟩, zup_f (Or.inl (Ne.symm n)), zup_f (Or.inl (Ne.symm n)), zup_t ⟨rfl, rfl, hf⟩, zup_f (Or.inl n)]
    exact h'
  · unfold yA
    rw [zup_f (Or.inr (by decide)), zup_t ⟨rfl, rfl, hg⟩, zup_t ⟨rfl, rfl, hg⟩]
    exact h
  · rw [zup_f (Or.inl y), zup_f (Or.inl y), zup_f (Or.inl x), zup_f (Or.inl x)]
theorem s_sw (w : zW) (d : Nat) {f g X Y : Int} (hf : f ≠ 0) (hg : g ≠ 0) (n : g ≠ f) {σ : zMem} (h : yA σ f X) (h' : yA σ g Y) :
    ∃ σ3, (if Y < X then (zcall w d 21 [zA 2 2 f, zA 2 2 g] σ).bind fun r12 => some ((0 : Int), r12.2) else some (0, σ)) = some (0, σ3) ∧ yA σ3 f (min X Y) ∧ yA σ3 g (max X Y) ∧ yK2 σ σ3 f g := by
  by_cases c : Y < X
  · obtain ⟨σ3, e, u, v, z⟩ := s_21 w d hf hg n h h'
    rw [if_pos c, e, Int.min_eq_right (by omega), Int.max_eq_left (by omega)]
    exact ⟨σ3, rfl, u, v, z⟩
  · rw [if_neg c, Int.min_eq_left (by omega), Int.max_eq_right (by omega)]
    exact ⟨σ, rfl, h, h', fun _ _ _ _ => rfl⟩
theorem s_104 (w : zW) {d : Nat} (hd : 2 ≤ d) {f g b D : Int} {W V : Int} (hf : f ≠ 0) (hg : g ≠ 0) (n : g ≠ f) {σ : zMem} (hD : 0 ≤ D ∧ D ≤ 6) (h : yA σ f W) (q : yQ b D W) (h' : yA σ g V) (q' : yQ b D V) :
    ∃ σ', zcall w d 104 [zA 2 2 f, zA 2 2 g] σ = some (0, σ') ∧ yA σ' f (if W ≤ 0 ∧ 0 ≤ V then 0 else min (max W (-W)) (max V (-V))) ∧ yA σ' g (max (max W (-W)) (max V (-V))) ∧ yK2 σ σ' f g := by
  obtain ⟨d, rfl⟩ : ∃ e, d = e + 1 := ⟨d - 1, by omega⟩
  obtain ⟨σ1, e1, x1, y1⟩ := s_23 w (d := d) (by omega) hf hD h q
  obtain ⟨σ2, e2, x2, y2⟩ := s_23 w (d := d) (by omega) hg hD (yA_c (y1 _ _ n) (y1 _ _ n) h') q'
  have x1' := yA_c (y2 _ _ (Ne.symm n)) (y2 _ _ (Ne.symm n)) x1
  have e3 := s_15 w d hD x1' (yQ_abs q) x2 (yQ_abs q')
  have fr2 : yK2 σ σ2 f g := fun c k u v => (y2 c k v).trans (y1 c k u)
  obtain ⟨σ3, f1, f2, f3, f4⟩ : ∃ σ3, (if max V (-V) < max W (-W) then (zcall w d 21 [zA 2 2 f, zA 2 2 g] σ2).bind fun r12 => some ((0 : Int), r12.2) else some (0, σ2)) = some (0, σ3) ∧ yA σ3 f (min (max W (-W)) (max V (-V))) ∧ yA σ3 g (max (max W (-W)) (max V (-V))) ∧ yK2 σ σ3 f g := by
    obtain ⟨σ3, x, y, z, o⟩ := s_sw w d hf hg n x1' x2
    exact ⟨σ3, x, y, z, fun c k u v => (o c k u v).trans (fr2 c k u v)⟩
  rw [eX8_becomeAmounts, s_13 w d h, Option.bind_some]
  dsimp only
  rw [zt_if]
  by_cases c1 : 0 < W
  · rw [if_pos c1, e1, Option.bind_some]
    dsimp only
    rw [e2, Option.bind_some]
    dsimp only
    rw [e3, Option.bind_some]
    dsimp only
    rw [zt_if, f1, if_neg (by omega)]
    exact ⟨σ3, rfl, f2, f3, f4⟩
  · rw [if_neg c1, s_14 w d h', Option.bind_some]
    dsimp only
    rw [zt_if]
    by_cases c2 : V < 0
    · rw [if_pos c2, e1, Option.bind_some]
      dsimp only
      rw [e2, Option.bind_some]
      dsimp only
      rw [e3, Option.bind_some]
      dsimp only
      rw [zt_if, f1, if_neg (by omega)]
      exact ⟨σ3, rfl, f2, f3, f4⟩
    · obtain ⟨σ4, e4, u4, v4⟩ := s_16 w d hf 0 σ3
      rw [Int.zero_mul] at u4
      rw [if_neg c2, e1, Option.bind_some]
      dsimp only
      rw [e2, Option.bind_some]
      dsimp only
      rw [e3, Option.bind_some]
      dsimp only
      rw [zt_if, if_pos (show W ≤ 0 ∧ 0 ≤ V by omega)]
      refine ⟨σ4, ?_, u4, yA_c (v4 _ _ n) (v4 _ _ n) f3, fun c k u v => (v4 c k u).trans (f4 c k u v)⟩
      by_cases c : max V (-V) < max W (-W)
      · rw [if_pos c] at f1 ⊢
        cases e21 : zcall w d 21 [zA 2 2 f, zA 2 2 g] σ2 with
        | none => rw [e21] at f1; cases f1
        | some r =>
          rw [e21, Option.bind_some] at f1
          rw [Option.bind_some]
          injection f1 with f1
          injection f1 with _ f1
          rw [f1, e4]; rfl
      · rw [if_neg c] at f1 ⊢
        injection f1 with f1
        injection f1 with _ f1
        rw [f1, e4]; rfl
end
