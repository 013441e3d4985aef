section
/-! A shape's worth at a point, as the class finds it -/
def yFd (w : zW) (a : Int) (T : Int → Int) (n : Int) (f : Nat) : Prop := ∀ (d : Nat) (s r l x y z : Int) (σ : zMem), 2 * f + 4 ≤ d → 0 ≤ s → s < n → T (11 * s + 3) < f → 0 ≤ r → r ≤ l → l + T (11 * s + 3) ≤ 6 → zTb 2 σ T n →
  σ (a + 1) (3 * r) = x → σ (a + 1) (3 * r + 1) = y → σ (a + 1) (3 * r + 2) = z → (-(429 - 55 * T (11 * s + 3)) ≤ x ∧ x ≤ 429 - 55 * T (11 * s + 3)) → (-(429 - 55 * T (11 * s + 3)) ≤ y ∧ y ≤ 429 - 55 * T (11 * s + 3)) → (-(429 - 55 * T (11 * s + 3)) ≤ z ∧ z ≤ 429 - 55 * T (11 * s + 3)) →
  ∃ σ', zcall w d 43 [zA 5 2 a, zA 10 8 2, zI s, zI r, zI l] σ = some (0, σ') ∧ yA σ' (a + 3 + l) (zwd T f s x y z) ∧ ∀ c k, (c ≠ a + 1 ∨ k < 3 * r + 3) → (c < a + 3 + l ∨ a + 10 < c) → σ' c k = σ c k
/-- what becomes of two worths by a pair's kind -/
theorem s_45k (w : zW) {d : Nat} (hd : 3 ≤ d) {a : Int} {σ : zMem} {T N : Int → Int} {s F G W V b D k : Int} (v3 v4 v5 v6 : zV) (t : yTs σ T s) (eK : T (11 * s) = k) (hk : 8 ≤ k ∧ k ≤ 11) (eN : ∀ j, T (11 * s + 5 + j) = N j) (hN : zNV k N)
    (hF : F ≠ 0) (hG : G ≠ 0) (n : G ≠ F) (hD : 0 ≤ D ∧ D ≤ 6) (hb : 0 ≤ b) (hb2 : k = 11 → b ≤ 1) (hW : yA σ F W) (qW : yQ b D W) (hV : yA σ G V) (qV : yQ b D V) :
    ∃ σ', (if k = 8 then zden w (d + 1) 45 46 [zA 5 2 a, zA 10 8 2, zI s, v3, v4, v5, v6, zA 2 2 F, zA 2 2 G] [] σ else if k = 9 then zden w (d + 1) 45 50 [zA 5 2 a, zA 10 8 2, zI s, v3, v4, v5, v6, zA 2 2 F, zA 2 2 G] [] σ
      else if k = 10 then zden w (d + 1) 45 54 [zA 5 2 a, zA 10 8 2, zI s, v3, v4, v5, v6, zA 2 2 F, zA 2 2 G] [] σ else zden w (d + 1) 45 60 [zA 5 2 a, zA 10 8 2, zI s, v3, v4, v5, v6, zA 2 2 F, zA 2 2 G] [] σ) = some (0, σ')
      ∧ yA σ' F (zpr k (N 0) (N 1) W V) ∧ ∀ c j, c ≠ F → c ≠ G → σ' c j = σ c j := by
  have : k = 8 ∨ k = 9 ∨ k = 10 ∨ k = 11 := by omega
  rcases this with rfl | rfl | rfl | rfl
  · obtain ⟨σ', e, x, y⟩ := s_19 w (d := d) (by omega) hF n hD hW qW hV qV
    rw [if_pos rfl, hX4_ofPair_46, e]
    exact ⟨σ', rfl, x, fun c j h _ => y c j h⟩
  · obtain ⟨σ', e, x, y⟩ := s_20 w (d := d) (by omega) hF n hD hW qW hV qV
    rw [if_neg (by decide), if_pos rfl, hX4_ofPair_50, e]
    exact ⟨σ', rfl, x, fun c j h _ => y c j h⟩
  · obtain ⟨σ1, e1, x1, y1⟩ := s_22 w d hG hD hV qV
    obtain ⟨σ', e, x, y⟩ := s_20 w (d := d) (by omega) hF n hD (yA_c (y1 _ _ (Ne.symm n)) (y1 _ _ (Ne.symm n)) hW) qW x1 (yQ_neg qV)
    rw [if_neg (by decide), if_neg (by decide), if_pos rfl, hX4_ofPair_54, e1, Option.bind_some]
    dsimp only
    rw [e]
    exact ⟨σ', rfl, x, fun c j h g => (y c j h).trans (y1 c j g)⟩
  · have v := yV11 hN
    obtain ⟨σ', e, x, y⟩ := s_25 w (d := d) (by omega) hF hD ⟨hb, hb2 rfl⟩ hW qW hV qV v.1 v.2
    rw [if_neg (by decide), if_neg (by decide), if_neg (by decide), hX4_ofPair_60, s_118 w d t (by decide) (by rw [eK]; decide), Option.bind_some]
    dsimp only
    rw [s_118 w d t (by decide) (by rw [eK]; decide), Option.bind_some]
    dsimp only
    rw [eN, eN, e]
    exact ⟨σ', rfl, x, fun c j h _ => y c j h⟩
theorem yTb_c {a : Int} (ha : a = 90 ∨ a = 173) {σ σ' : zMem} {T : Int → Int} {n r l : Int} (hl : 0 ≤ l) (h : ∀ c k, (c ≠ a + 1 ∨ k < 3 * r + 3) → (c < a + 3 + l ∨ a + 10 < c) → σ' c k = σ c k) (t : zTb 2 σ T n) : zTb 2 σ' T n :=
  zTb_fr (fun c k x y => h c k (by omega) (by omega)) t
theorem s_43 (w : zW) {a : Int} (ha : a = 90 ∨ a = 173) {T : Int → Int} {n : Int} (hT : zWF T n) : ∀ f, yFd w a T n f := by
  intro f
  induction f with
  | zero =>
    intro d s r l x y z σ hd h0 h1 hf
    have := (hT.2.2 s h0 h1).2.1
    omega
  | succ f ih =>
    intro d s r l x y z σ hd h0 h1 hf hr hrl hl hTb eX eY eZ hx hy hz
    obtain ⟨d, rfl⟩ : ∃ e, d = e + 1 + 1 := ⟨d - 2, by omega⟩
    have g := hT.2.2 s h0 h1
    obtain ⟨-, g1, g2, g3, g4, g5⟩ := hT.2.2 s h0 h1
    have t := yTs_i hTb hT.2.1 h0 h1
    obtain ⟨r1, r2⟩ := yr_1 w ha
    have eN : ∀ j, T (11 * s + 5 + j) = (fun i => T (11 * s + 5 + i)) j := fun _ => rfl
    rw [eX4_find, if_neg (by omega), if_neg (by omega), if_pos (by omega), s_112 w _ t, Option.bind_some]
    dsimp only
    rw [s_27, Option.bind_some]
    dsimp only
    rw [zt_if]
    have r3 := yr_2 w ha (l := l) (by omega)
    have n0 : T (11 * s + 5) = (fun i => T (11 * s + 5 + i)) 0 := by dsimp only; rw [Int.add_zero]
    have n1 : T (11 * s + 6) = (fun i => T (11 * s + 5 + i)) 1 := by dsimp only; rw [ya1]
    have n2 : T (11 * s + 7) = (fun i => T (11 * s + 5 + i)) 2 := by dsimp only; rw [ya2]
    rcases yWS g with c | c | c
    · have eW : zwd T (f + 1) s x y z = zsd (T (11 * s)) (fun i => T (11 * s + 5 + i)) x y z * zONE := by rw [zwd, if_pos (by omega)]
      obtain ⟨σ', e, u, v⟩ := s_16 w (d + 1) (f := a + 3 + l) (by omega) (zsd (T (11 * s)) (fun i => T (11 * s + 5 + i)) x y z) σ
      have e3 : zar 2 r 3 = 3 * r := by rw [za_2, zw32_i (by omega)]; omega
      rw [if_pos (by omega), if_pos (by omega), e3,
        s_44 w (by omega) ha t (by omega) g5 (by omega) (by omega) (by omega) (by omega), Option.bind_some, eX, eY, eZ, r2, r3]
      dsimp only
      rw [e, eW]
      exact ⟨σ', rfl, u, fun c k _ q => v c k (by omega)⟩
    · obtain ⟨c1, c2, c3, c4, c5, c6, c7, c8⟩ := c
      have gp := (hT.2.2 _ c3.1 (by omega)).2
      have gq := (hT.2.2 _ c4.1 (by omega)).2
      have eW : zwd T (f + 1) s x y z = zpr (T (11 * s)) (T (11 * s + 5)) (T (11 * s + 6)) (zwd T f (T (11 * s + 1)) x y z) (zwd T f (T (11 * s + 2)) x y z) := by rw [zwd, if_neg (by omega), if_pos (by omega)]
      have qp := yQ_up (b' := max (T (11 * T (11 * s + 1) + 4)) (T (11 * T (11 * s + 2) + 4))) (D' := 6) (by omega) (by omega) (by omega) (yQ_wd hT f _ x y z c3.1 (by omega) (by omega) (by omega) (by omega) (by omega))
      have qq := yQ_up (b' := max (T (11 * T (11 * s + 1) + 4)) (T (11 * T (11 * s + 2) + 4))) (D' := 6) (by omega) (by omega) (by omega) (yQ_wd hT f _ x y z c4.1 (by omega) (by omega) (by omega) (by omega) (by omega))
      have hb2 : T (11 * s) = 11 → max (T (11 * T (11 * s + 1) + 4)) (T (11 * T (11 * s + 2) + 4)) ≤ 1 := by
        intro e
        rw [if_pos e] at c7 c8
        omega
      have r4 := yr_2 w ha (l := l + 1) (by omega)
      have el : zar 0 l 1 = l + 1 := by rw [za_0, zw32_i (by omega)]
      obtain ⟨σ1, e1, u1, v1⟩ := ih d (T (11 * s + 1)) r (l + 1) x y z σ (by omega) c3.1 (by omega) (by omega) hr (by omega) (by omega) hTb eX eY eZ (by omega) (by omega) (by omega)
      obtain ⟨σ2, e2, u2, v2⟩ := s_18 w d (f := a + 3 + l) (by omega) (show a + 3 + (l + 1) ≠ a + 3 + l by omega) u1
      have hTb2 : zTb 2 σ2 T n := zTb_fr (fun c k x y => (v2 c k (by omega)).trans (v1 c k (by omega) (by omega))) hTb
      have t2 := yTs_i hTb2 hT.2.1 h0 h1
      have fin : ∀ σ3 : zMem, yTs σ3 T s → yA σ3 (a + 3 + l) (zwd T f (T (11 * s + 1)) x y z) → yA σ3 (a + 3 + (l + 1)) (zwd T f (T (11 * s + 2)) x y z) → (∀ c k, (c ≠ a + 1 ∨ k < 3 * r + 3) → (c < a + 3 + l ∨ a + 10 < c) → σ3 c k = σ c k) → ∀ v5 v6 : zV,
          ∃ σ', (if T (11 * s) = 8 then zden w (d + 1) 45 46 [zA 5 2 a, zA 10 8 2, zI s, zI r, zI l, v5, v6, zA 2 2 (a + 3 + l), zA 2 2 (a + 3 + (l + 1))] [] σ3 else if T (11 * s) = 9 then zden w (d + 1) 45 50 [zA 5 2 a, zA 10 8 2, zI s, zI r, zI l, v5, v6, zA 2 2 (a + 3 + l), zA 2 2 (a + 3 + (l + 1))] [] σ3
            else if T (11 * s) = 10 then zden w (d + 1) 45 54 [zA 5 2 a, zA 10 8 2, zI s, zI r, zI l, v5, v6, zA 2 2 (a + 3 + l), zA 2 2 (a + 3 + (l + 1))] [] σ3 else zden w (d + 1) 45 60 [zA 5 2 a, zA 10 8 2, zI s, zI r, zI l, v5, v6, zA 2 2 (a + 3 + l), zA 2 2 (a + 3 + (l + 1))] [] σ3) = some (0, σ')
            ∧ yA σ' (a + 3 + l) (zwd T (f + 1) s x y z) ∧ ∀ c k, (c ≠ a + 1 ∨ k < 3 * r + 3) → (c < a + 3 + l ∨ a + 10 < c) → σ' c k = σ c k := by
        intro σ3 t3 a1 a2 fr v5 v6
        obtain ⟨σ', e, u, v⟩ := s_45k w (d := d) (by omega) (a := a) (zI r) (zI l) v5 v6 t3 rfl (by omega) eN g5 (show a + 3 + l ≠ 0 by omega) (show a + 3 + (l + 1) ≠ 0 by omega) (by omega) (show (0 : Int) ≤ 6 ∧ (6 : Int) ≤ 6 by decide) (by omega) hb2 a1 qp a2 qq
        rw [ya0, ya1, ← eW] at u
        exact ⟨σ', e, u, fun c k h h' => (v c k (by omega) (by omega)).trans (fr c k h h')⟩
      rw [if_neg (by omega), s_28, Option.bind_some]
      dsimp only
      rw [zt_if, if_pos (by omega), eX4_ofPair, s_113 w _ t, Option.bind_some]
      dsimp only
      rw [s_114 w _ t, Option.bind_some]
      dsimp only
      rw [el, e1, Option.bind_some]
      dsimp only
      rw [if_pos (by omega), if_pos (by omega), r2, r3, r4, e2, Option.bind_some]
      dsimp only
      by_cases epq : T (11 * s + 2) = T (11 * s + 1)
      · obtain ⟨σ', e, u, v⟩ := fin σ2 t2 u2 (by rw [epq]; exact yA_c (v2 _ _ (by omega)) (v2 _ _ (by omega)) u1) (fun c k h h' => (v2 c k (by omega)).trans (v1 c k h (by omega))) (zI (T (11 * s + 1))) (zI (T (11 * s + 2)))
        rw [if_pos epq, s_112 w _ t2, Option.bind_some]
        dsimp only
        rw [e]
        exact ⟨σ', rfl, u, v⟩
      · obtain ⟨σ3, e3, u3, v3⟩ := ih d (T (11 * s + 2)) r (l + 1) x y z σ2 (by omega) c4.1 (by omega) (by omega) hr (by omega) (by omega) hTb2 (by rw [v2 _ _ (by omega), v1 _ _ (by omega) (by omega), eX]) (by rw [v2 _ _ (by omega), v1 _ _ (by omega) (by omega), eY]) (by rw [v2 _ _ (by omega), v1 _ _ (by omega) (by omega), eZ]) (by omega) (by omega) (by omega)
        have hTb3 : zTb 2 σ3 T n := zTb_fr (fun c k x y => v3 c k (by omega) (by omega)) hTb2
        have t3 := yTs_i hTb3 hT.2.1 h0 h1
        obtain ⟨σ', e, u, v⟩ := fin σ3 t3 (yA_c (v3 _ _ (by omega) (by omega)) (v3 _ _ (by omega) (by omega)) u2) u3 (fun c k h h' => (v3 c k h (by omega)).trans ((v2 c k (by omega)).trans (v1 c k h (by omega)))) (zI (T (11 * s + 1))) (zI (T (11 * s + 2)))
        rw [if_neg epq, e3, Option.bind_some]
        dsimp only
        rw [s_112 w _ t3, Option.bind_some]
        dsimp only
        rw [e]
        exact ⟨σ', rfl, u, v⟩
    · obtain ⟨c1, c2, c3, c4, c5, c6⟩ := c
      have gp := (hT.2.2 _ c3.1 (by omega)).2
      have eW : zwd T (f + 1) s x y z = zch (T (11 * s)) (T (11 * s + 5)) (T (11 * s + 6)) (zwd T f (T (11 * s + 1)) (zmv (T (11 * s)) (T (11 * s + 5)) (T (11 * s + 6)) (T (11 * s + 7)) x y z).1 (zmv (T (11 * s)) (T (11 * s + 5)) (T (11 * s + 6)) (T (11 * s + 7)) x y z).2.1 (zmv (T (11 * s)) (T (11 * s + 5)) (T (11 * s + 6)) (T (11 * s + 7)) x y z).2.2) := by rw [zwd, if_neg (by omega), if_neg (by omega)]
      have r4 := yr_2 w ha (l := l + 1) (by omega)
      have el : zar 0 l 1 = l + 1 := by rw [za_0, zw32_i (by omega)]
      have e3 : zar 2 r 3 = 3 * r := by rw [za_2, zw32_i (by omega)]; omega
      rw [if_neg (by omega), s_28, Option.bind_some]
      dsimp only
      rw [zt_if, if_neg (by omega), eX4_ofChange, s_112 w _ t, Option.bind_some]
      dsimp only
      by_cases cg : T (11 * s) = 16 ∨ T (11 * s) = 17
      · have em : zmv (T (11 * s)) (T (11 * s + 5)) (T (11 * s + 6)) (T (11 * s + 7)) x y z = (x, y, z) := by
          rw [zmv, if_neg (by omega), if_neg (by omega), if_neg (by omega), if_neg (by omega)]
        rw [em] at eW
        dsimp only at eW
        obtain ⟨σ1, e1, u1, v1⟩ := ih d (T (11 * s + 1)) r (l + 1) x y z σ (by omega) c3.1 (by omega) (by omega) hr (by omega) (by omega) hTb eX eY eZ (by omega) (by omega) (by omega)
        obtain ⟨σ2, e2, u2, v2⟩ := s_18 w d (f := a + 3 + l) (by omega) (show a + 3 + (l + 1) ≠ a + 3 + l by omega) u1
        have hTb2 : zTb 2 σ2 T n := zTb_fr (fun c k x y => (v2 c k (by omega)).trans (v1 c k (by omega) (by omega))) hTb
        have t2 := yTs_i hTb2 hT.2.1 h0 h1
        have qp := yQ_up (b' := 2) (D' := 6) (by omega) (by omega) (by omega) (yQ_wd hT f _ x y z c3.1 (by omega) (by omega) (by omega) (by omega) (by omega))
        have nb : (-99 ≤ T (11 * s + 5) ∧ T (11 * s + 5) ≤ 99) ∧ 1 ≤ T (11 * s + 6) ∧ T (11 * s + 6) ≤ 9 := by
          rw [n0, n1]
          rcases cg with e | e
          · rw [e] at g5; exact yV16 g5
          · rw [e] at g5; exact yV17 g5
        have zn : 2 = zno (T (11 * s)) := by rcases cg with e | e <;> rw [e] <;> rfl
        rcases cg with cg | cg
        · obtain ⟨σ', e, u, v⟩ := s_24 w (d := d) (by omega) (f := a + 3 + l) (by omega) (by decide) u2 qp nb.1 nb.2
          rw [if_pos cg, s_113 w _ t, Option.bind_some]
          dsimp only
          rw [el, e1, Option.bind_some]
          dsimp only
          rw [if_pos (by omega), if_pos (by omega), r2, r3, r4, e2, Option.bind_some]
          dsimp only
          rw [if_neg (by omega), if_pos (by omega), s_118 w _ t2 (by decide) (by omega), Option.bind_some]
          dsimp only
          rw [s_118 w _ t2 (by decide) (by omega), Option.bind_some]
          dsimp only
          rw [Int.add_zero, ya1, e, eW, cg, zch, if_pos rfl]
          exact ⟨σ', rfl, u, fun c k h h' => (v c k (by omega)).trans ((v2 c k (by omega)).trans (v1 c k h (by omega)))⟩
        · obtain ⟨σ3, e3, u3, v3⟩ := s_23 w (d := d) (by omega) (f := a + 3 + l) (by omega) (by decide) u2 qp
          have hTb3 : zTb 2 σ3 T n := zTb_fr (fun c k x y => v3 c k (by omega)) hTb2
          have t3 := yTs_i hTb3 hT.2.1 h0 h1
          obtain ⟨σ', e, u, v⟩ := s_24 w (d := d) (by omega) (f := a + 3 + l) (by omega) (by decide) u3 (yQ_abs qp) nb.1 nb.2
          rw [if_neg (by omega), if_pos cg, s_113 w _ t, Option.bind_some]
          dsimp only
          rw [el, e1, Option.bind_some]
          dsimp only
          rw [if_pos (by omega), if_pos (by omega), r2, r3, r4, e2, Option.bind_some]
          dsimp only
          rw [if_pos cg, if_pos (by omega), e3, Option.bind_some]
          dsimp only
          rw [if_pos (by omega), s_118 w _ t3 (by decide) (by omega), Option.bind_some]
          dsimp only
          rw [s_118 w _ t3 (by decide) (by omega), Option.bind_some]
          dsimp only
          rw [Int.add_zero, ya1, e, eW, cg, zch, if_neg (by decide), if_pos rfl]
          exact ⟨σ', rfl, u, fun c k h h' => (v c k (by omega)).trans ((v3 c k (by omega)).trans ((v2 c k (by omega)).trans (v1 c k h (by omega))))⟩
      · have m := ymv_b ⟨c1, c2⟩ g5 (C := 429 - 55 * T (11 * s + 3)) (by omega) hx hy hz
        obtain ⟨σ0, e0, x0, y0, z0, f0⟩ := s_47 w (d := d) (by omega) ha t (by omega) rfl eN g5 (r := r) (by omega) eX eY eZ (by omega) (by omega) (by omega)
        rw [ya0, ya1, ya2] at m x0 y0 z0
        generalize zmv (T (11 * s)) (T (11 * s + 5)) (T (11 * s + 6)) (T (11 * s + 7)) x y z = v at *
        have er : zar 0 r 1 = r + 1 := by rw [za_0, zw32_i (by omega)]
        have hTb0 : zTb 2 σ0 T n := zTb_fr (fun c k x y => f0 c k (by omega)) hTb
        have t0 := yTs_i hTb0 hT.2.1 h0 h1
        obtain ⟨σ1, e1, u1, v1⟩ := ih d (T (11 * s + 1)) (r + 1) (l + 1) v.1 v.2.1 v.2.2 σ0 (by omega) c3.1 (by omega) (by omega) (by omega) (by omega) (by omega) hTb0 (by rw [← x0]; congr 1; omega) (by rw [← y0]; congr 1; omega) (by rw [← z0]; congr 1; omega) (by omega) (by omega) (by omega)
        obtain ⟨σ2, e2, u2, v2⟩ := s_18 w d (f := a + 3 + l) (by omega) (show a + 3 + (l + 1) ≠ a + 3 + l by omega) u1
        rw [if_neg (by omega), if_neg (by omega), e3, e0, Option.bind_some]
        dsimp only
        rw [s_113 w _ t0, Option.bind_some]
        dsimp only
        rw [el, er, e1, Option.bind_some]
        dsimp only
        rw [if_pos (by omega), if_pos (by omega), r2, r3, r4, e2, eW, zch, if_neg (by omega), if_neg (by omega)]
        exact ⟨σ2, rfl, u2, fun c k h h' => (v2 c k (by omega)).trans ((v1 c k (by omega) (by omega)).trans (f0 c k (by omega)))⟩
end
