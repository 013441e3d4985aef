section
/-! A shape's bounds over a region, as the class finds them -/
def ySd (w : zW) (a : Int) (T : Int → Int) (n : Int) (f : Nat) : Prop := ∀ (d : Nat) (s r l : Int) (R : zrg) (σ : zMem), 2 * f + 4 ≤ d → 0 ≤ s → s < n → T (11 * s + 3) < f → 0 ≤ r → r ≤ l → l + T (11 * s + 3) ≤ 6 → zTb 2 σ T n →
  yRg σ a r R → yrb (429 - 55 * T (11 * s + 3)) R →
  ∃ σ', zcall w d 98 [zA 9 3 a, zA 10 8 2, zI s, zI r, zI l] σ = some (0, σ') ∧ yA2 σ' a l (zbd T f s R) ∧ ∀ c k, (c ≠ a + 1 ∨ k < 6 * r + 6) → (c < a + 4 + 2 * l ∨ a + 19 < c) → σ' c k = σ c k
theorem s_98 (w : zW) {a : Int} (ha : a = 101 ∨ a = 184) {T : Int → Int} {n : Int} (hT : zWF T n) : ∀ f, ySd w a T n f := by
  intro f
  induction f with
  | zero =>
    intro d s r l R σ hd h0 h1 hf
    have := (hT.2.2 s h0 h1).2.1
    omega
  | succ f ih =>
    intro d s r l R σ hd h0 h1 hf hr hrl hl hTb hR hb
    obtain ⟨d, rfl⟩ : ∃ e, d = e + 1 + 1 := ⟨d - 2, by omega⟩
    have g := hT.2.2 s h0 h1
    obtain ⟨-, g1, g2, g3, g4, g5⟩ := hT.2.2 s h0 h1
    have t := yTs_i hTb hT.2.1 h0 h1
    obtain ⟨r1, r2, r2'⟩ := yq_1 w ha
    have eN : ∀ j, T (11 * s + 5 + j) = (fun i => T (11 * s + 5 + i)) j := fun _ => rfl
    have hb4 : yrb 429 R := yrb_i (by omega) hb
    obtain ⟨r3, r3'⟩ := yq_2 w ha (l := l) (by omega)
    have n0 : T (11 * s + 5) = (fun i => T (11 * s + 5 + i)) 0 := by dsimp only; rw [Int.add_zero]
    have n1 : T (11 * s + 6) = (fun i => T (11 * s + 5 + i)) 1 := by dsimp only; rw [ya1]
    have n2 : T (11 * s + 7) = (fun i => T (11 * s + 5 + i)) 2 := by dsimp only; rw [ya2]
    have e6 : zar 2 r 6 = 6 * r := by rw [za_2, zw32_i (by omega)]; omega
    have el : zar 0 l 1 = l + 1 := by rw [za_0, zw32_i (by omega)]
    rw [eX8_find, if_neg (by omega), if_neg (by omega), if_pos (by omega), s_112 w _ t, Option.bind_some]
    dsimp only
    rcases yWS g with c | c | c
    · have eW : zbd T (f + 1) s R = ((zsb (T (11 * s)) (fun i => T (11 * s + 5 + i)) R).1 * zONE, (zsb (T (11 * s)) (fun i => T (11 * s + 5 + i)) R).2 * zONE) := by rw [zbd, if_pos (by omega)]
      rw [eW, e6]
      have : T (11 * s) = 3 ∨ T (11 * s) = 4 ∨ T (11 * s) = 5 := by omega
      rcases this with e | e | e
      · obtain ⟨σ', x, u, v⟩ := s_99 w (d := d + 1) (by omega) ha t e (by rw [e] at g5; exact g5) (by omega) (l := l) (by omega) hR hb4
        rw [e, if_pos rfl, x]
        exact ⟨σ', rfl, u, fun c k _ q => v c k (by omega) (by omega)⟩
      · obtain ⟨σ', x, u, v⟩ := s_100 w (d := d + 1) (by omega) ha t e (by rw [e] at g5; exact g5) (by omega) (l := l) (by omega) hR hb4
        rw [e, if_neg (by decide), if_pos rfl, x]
        exact ⟨σ', rfl, u, fun c k _ q => v c k (by omega) (by omega)⟩
      · obtain ⟨σ', x, u, v⟩ := s_101 w (d := d + 1) (by omega) ha t e (by rw [e] at g5; exact g5) (by omega) (l := l) (by omega) hR hb4
        rw [e, if_neg (by decide), if_neg (by decide), if_pos rfl, x]
        exact ⟨σ', rfl, u, fun c k _ q => v c k (by omega) (by omega)⟩
    · obtain ⟨c1, c2, c3, c4, c5, c6, c7, c8⟩ := c
      have gp := (hT.2.2 _ c3.1 (by omega)).2
      have gq := (hT.2.2 _ c4.1 (by omega)).2
      have eW : zbd T (f + 1) s R = zpb (T (11 * s)) (T (11 * s + 5)) (T (11 * s + 6)) (zbd T f (T (11 * s + 1)) R) (zbd T f (T (11 * s + 2)) R) := by rw [zbd, if_neg (by omega), if_pos (by omega)]
      have qp' := yQ_bd hT f _ R c3.1 (by omega) (by omega) (yrb_i (by omega) hb)
      have qq' := yQ_bd hT f _ R c4.1 (by omega) (by omega) (yrb_i (by omega) hb)
      have qp : yQ2 (max (T (11 * T (11 * s + 1) + 4)) (T (11 * T (11 * s + 2) + 4))) 6 (zbd T f (T (11 * s + 1)) R) := ⟨yQ_up (by omega) (by omega) (by omega) qp'.1, yQ_up (by omega) (by omega) (by omega) qp'.2⟩
      have qq : yQ2 (max (T (11 * T (11 * s + 1) + 4)) (T (11 * T (11 * s + 2) + 4))) 6 (zbd T f (T (11 * s + 2)) R) := ⟨yQ_up (by omega) (by omega) (by omega) qq'.1, yQ_up (by omega) (by omega) (by omega) qq'.2⟩
      have hb2 : T (11 * s) = 11 → max (T (11 * T (11 * s + 1) + 4)) (T (11 * T (11 * s + 2) + 4)) ≤ 1 := by
        intro e
        rw [if_pos e] at c7 c8
        omega
      obtain ⟨r4, r4'⟩ := yq_2 w ha (l := l + 1) (by omega)
      obtain ⟨σ1, e1, u1, v1⟩ := ih d (T (11 * s + 1)) r (l + 1) R σ (by omega) c3.1 (by omega) (by omega) hr (by omega) (by omega) hTb hR (yrb_i (by omega) hb)
      obtain ⟨σ2, σ2', e2, e2', u2, v2⟩ := s_take2 w d ha (l := l) (by omega) u1
      have hTb2 : zTb 2 σ2' T n := zTb_fr (fun c k x y => (v2 c k (by omega) (by omega)).trans (v1 c k (by omega) (by omega))) hTb
      have t2 := yTs_i hTb2 hT.2.1 h0 h1
      have fin : ∀ σ3 : zMem, yTs σ3 T s → yA2 σ3 a l (zbd T f (T (11 * s + 1)) R) → yA2 σ3 a (l + 1) (zbd T f (T (11 * s + 2)) R) → (∀ c k, (c ≠ a + 1 ∨ k < 6 * r + 6) → (c < a + 4 + 2 * l ∨ a + 19 < c) → σ3 c k = σ c k) → ∀ v5 v6 : zV,
          ∃ σ', (if T (11 * s) = 8 then zden w (d + 1) 102 67 [zA 9 3 a, zA 10 8 2, zI s, zI r, zI l, v5, v6, zA 2 2 (a + 4 + 2 * (l + 1)), zA 2 2 (a + 5 + 2 * (l + 1))] [] σ3 else if T (11 * s) = 9 then zden w (d + 1) 102 80 [zA 9 3 a, zA 10 8 2, zI s, zI r, zI l, v5, v6, zA 2 2 (a + 4 + 2 * (l + 1)), zA 2 2 (a + 5 + 2 * (l + 1))] [] σ3
            else if T (11 * s) = 10 then zden w (d + 1) 102 93 [zA 9 3 a, zA 10 8 2, zI s, zI r, zI l, v5, v6, zA 2 2 (a + 4 + 2 * (l + 1)), zA 2 2 (a + 5 + 2 * (l + 1))] [] σ3 else zden w (d + 1) 102 110 [zA 9 3 a, zA 10 8 2, zI s, zI r, zI l, v5, v6, zA 2 2 (a + 4 + 2 * (l + 1)), zA 2 2 (a + 5 + 2 * (l + 1))] [] σ3) = some (0, σ')
            ∧ yA2 σ' a l (zbd T (f + 1) s R) ∧ ∀ c k, (c ≠ a + 1 ∨ k < 6 * r + 6) → (c < a + 4 + 2 * l ∨ a + 19 < c) → σ' c k = σ c k := by
        intro σ3 t3 a1 a2 fr v5 v6
        obtain ⟨σ', e, u, v⟩ := s_102k w (d := d) (by omega) ha (l := l) (by omega) (zI r) v5 v6 t3 rfl (by omega) eN g5 (show (0 : Int) ≤ 6 ∧ (6 : Int) ≤ 6 by decide) (by omega) hb2 a1 qp a2 qq
        rw [ya0, ya1, ← eW] at u
        exact ⟨σ', e, u, fun c k h h' => (v c k (by omega)).trans (fr c k h h')⟩
      have main : ∃ σ', zcall w (d + 1) 102 [zA 9 3 a, zA 10 8 2, zI s, zI r, zI l] σ = some (0, σ') ∧ yA2 σ' a l (zbd T (f + 1) s R) ∧ ∀ c k, (c ≠ a + 1 ∨ k < 6 * r + 6) → (c < a + 4 + 2 * l ∨ a + 19 < c) → σ' c k = σ c k := by
        rw [eX8_ofPair, s_113 w _ t, Option.bind_some]
        dsimp only
        rw [s_114 w _ t, Option.bind_some]
        dsimp only
        rw [el, e1, Option.bind_some]
        dsimp only
        rw [if_pos (by omega), if_pos (by omega), r2, r2', r3, r3', r4, r4', e2, Option.bind_some]
        dsimp only
        rw [if_pos (by omega), if_pos (by omega), e2', Option.bind_some]
        dsimp only
        by_cases epq : T (11 * s + 2) = T (11 * s + 1)
        · obtain ⟨σ', e, u, v⟩ := fin σ2' t2 u2 (by rw [epq]; exact yA2_c (fun k => v2 _ k (by omega) (by omega)) (fun k => v2 _ k (by omega) (by omega)) u1) (fun c k h h' => (v2 c k (by omega) (by omega)).trans (v1 c k h (by omega))) (zI (T (11 * s + 1))) (zI (T (11 * s + 2)))
          rw [if_pos epq, if_pos (by omega), if_pos (by omega), s_112 w _ t2, Option.bind_some]
          dsimp only
          exact ⟨σ', e, u, v⟩
        · obtain ⟨σ3, e3, u3, v3⟩ := ih d (T (11 * s + 2)) r (l + 1) R σ2' (by omega) c4.1 (by omega) (by omega) hr (by omega) (by omega) hTb2 (yRg_c (fun j _ h => (v2 _ _ (by omega) (by omega)).trans (v1 _ _ (by omega) (by omega))) hR) (yrb_i (by omega) hb)
          have hTb3 : zTb 2 σ3 T n := zTb_fr (fun c k x y => v3 c k (by omega) (by omega)) hTb2
          have t3 := yTs_i hTb3 hT.2.1 h0 h1
          obtain ⟨σ', e, u, v⟩ := fin σ3 t3 (yA2_c (fun k => v3 _ k (by omega) (by omega)) (fun k => v3 _ k (by omega) (by omega)) u2) u3 (fun c k h h' => (v3 c k h (by omega)).trans ((v2 c k (by omega) (by omega)).trans (v1 c k h (by omega)))) (zI (T (11 * s + 1))) (zI (T (11 * s + 2)))
          rw [if_neg epq, e3, Option.bind_some]
          dsimp only
          rw [if_pos (by omega), if_pos (by omega), s_112 w _ t3, Option.bind_some]
          dsimp only
          exact ⟨σ', e, u, v⟩
      obtain ⟨σ', e, u, v⟩ := main
      refine ⟨σ', ?_, u, v⟩
      have : T (11 * s) = 8 ∨ T (11 * s) = 9 ∨ T (11 * s) = 10 ∨ T (11 * s) = 11 := by omega
      rcases this with c | c | c | c <;> rw [c] <;> simp only [reduceIte, e, Option.bind_some, show ¬ (8 : Int) = 3 by decide, show ¬ (8 : Int) = 4 by decide, show ¬ (8 : Int) = 5 by decide, show ¬ (8 : Int) = 6 by decide, show ¬ (8 : Int) = 7 by decide, show ¬ (9 : Int) = 3 by decide, show ¬ (9 : Int) = 4 by decide, show ¬ (9 : Int) = 5 by decide, show ¬ (9 : Int) = 6 by decide, show ¬ (9 : Int) = 7 by decide, show ¬ (9 : Int) = 8 by decide, show ¬ (10 : Int) = 3 by decide, show ¬ (10 : Int) = 4 by decide, show ¬ (10 : Int) = 5 by decide, show ¬ (10 : Int) = 6 by decide, show ¬ (10 : Int) = 7 by decide, show ¬ (10 : Int) = 8 by decide, show ¬ (10 : Int) = 9 by decide, show ¬ (11 : Int) = 3 by decide, show ¬ (11 : Int) = 4 by decide, show ¬ (11 : Int) = 5 by decide, show ¬ (11 : Int) = 6 by decide, show ¬ (11 : Int) = 7 by decide, show ¬ (11 : Int) = 8 by decide, show ¬ (11 : Int) = 9 by decide, show ¬ (11 : Int) = 10 by decide]
    · obtain ⟨c1, c2, c3, c4, c5, c6⟩ := c
      have gp := (hT.2.2 _ c3.1 (by omega)).2
      have eW : zbd T (f + 1) s R = zcb (T (11 * s)) (T (11 * s + 5)) (T (11 * s + 6)) (zbd T f (T (11 * s + 1)) (zmvr (T (11 * s)) (T (11 * s + 5)) (T (11 * s + 6)) (T (11 * s + 7)) R)) := by rw [zbd, if_neg (by omega), if_neg (by omega)]
      obtain ⟨r4, r4'⟩ := yq_2 w ha (l := l + 1) (by omega)
      rw [if_neg (by omega), if_neg (by omega), if_neg (by omega), if_neg (by omega), if_neg (by omega), if_neg (by omega), if_neg (by omega), if_neg (by omega), if_neg (by omega), eX8_ofChange, s_112 w _ t, Option.bind_some]
      dsimp only
      by_cases cg : T (11 * s) = 16 ∨ T (11 * s) = 17
      · have em : zmvr (T (11 * s)) (T (11 * s + 5)) (T (11 * s + 6)) (T (11 * s + 7)) R = R := by
          rw [zmvr, if_neg (by omega), if_neg (by omega), if_neg (by omega), if_neg (by omega)]
        rw [em] at eW
        obtain ⟨σ1, e1, u1, v1⟩ := ih d (T (11 * s + 1)) r (l + 1) R σ (by omega) c3.1 (by omega) (by omega) hr (by omega) (by omega) hTb hR (yrb_i (by omega) hb)
        obtain ⟨σ2', σ2, e2, e2', u2, v2⟩ := s_take2 w d ha (l := l) (by omega) u1
        have F2 : ∀ c k, (c ≠ a + 1 ∨ k < 6 * r + 6) → (c < a + 4 + 2 * l ∨ a + 19 < c) → σ2 c k = σ c k := fun c k h h' => (v2 c k (by omega) (by omega)).trans (v1 c k h (by omega))
        have hTb2 : zTb 2 σ2 T n := zTb_fr (fun c k x y => F2 c k (by omega) (by omega)) hTb
        have t2 := yTs_i hTb2 hT.2.1 h0 h1
        have qp' := yQ_bd hT f _ R c3.1 (by omega) (by omega) (yrb_i (by omega) hb)
        have qp : yQ2 2 6 (zbd T f (T (11 * s + 1)) R) := ⟨yQ_up (by omega) (by omega) (by omega) qp'.1, yQ_up (by omega) (by omega) (by omega) qp'.2⟩
        generalize zbd T f (T (11 * s + 1)) R = A at *
        have nb : (-99 ≤ T (11 * s + 5) ∧ T (11 * s + 5) ≤ 99) ∧ 1 ≤ T (11 * s + 6) ∧ T (11 * s + 6) ≤ 9 := by
          rw [n0, n1]
          rcases cg with e | e
          · rw [e] at g5; exact yV16 g5
          · rw [e] at g5; exact yV17 g5
        have zn : 2 = zno (T (11 * s)) := by rcases cg with e | e <;> rw [e] <;> rfl
        /- both ends are lessened -/
        have les : ∀ (σ3 : zMem) (B : Int × Int), zTb 2 σ3 T n → yA2 σ3 a l B → yQ2 2 6 B → (∀ c k, (c ≠ a + 1 ∨ k < 6 * r + 6) → (c < a + 4 + 2 * l ∨ a + 19 < c) → σ3 c k = σ c k) →
            ∃ σ4 σ5, zcall w d 118 [zA 10 8 2, zI s, zI 0] σ3 = some (T (11 * s + 5), σ3) ∧ zcall w d 118 [zA 10 8 2, zI s, zI 1] σ3 = some (T (11 * s + 6), σ3) ∧ zcall w d 24 [zA 2 2 (a + 4 + 2 * l), zI (T (11 * s + 5)), zI (T (11 * s + 6))] σ3 = some (0, σ4)
              ∧ zcall w d 118 [zA 10 8 2, zI s, zI 0] σ4 = some (T (11 * s + 5), σ4) ∧ zcall w d 118 [zA 10 8 2, zI s, zI 1] σ4 = some (T (11 * s + 6), σ4) ∧ zcall w d 24 [zA 2 2 (a + 5 + 2 * l), zI (T (11 * s + 5)), zI (T (11 * s + 6))] σ4 = some (0, σ5)
              ∧ yA2 σ5 a l (B.1 - zONE / T (11 * s + 6) * T (11 * s + 5), B.2 - zONE / T (11 * s + 6) * T (11 * s + 5)) ∧ ∀ c k, (c ≠ a + 1 ∨ k < 6 * r + 6) → (c < a + 4 + 2 * l ∨ a + 19 < c) → σ5 c k = σ c k := by
          intro σ3 B hTb3 uB qB F3
          have t3 := yTs_i hTb3 hT.2.1 h0 h1
          obtain ⟨σ4, e4, u4, v4⟩ := s_24 w (d := d) (by omega) (f := a + 4 + 2 * l) (by omega) (by decide) uB.1 qB.1 nb.1 nb.2
          have hTb4 : zTb 2 σ4 T n := zTb_fr (fun c k x y => v4 c k (by omega)) hTb3
          have t4 := yTs_i hTb4 hT.2.1 h0 h1
          obtain ⟨σ5, e5, u5, v5⟩ := s_24 w (d := d) (by omega) (f := a + 5 + 2 * l) (by omega) (by decide) (yA_c (v4 _ _ (by omega)) (v4 _ _ (by omega)) uB.2) qB.2 nb.1 nb.2
          have p0 := s_118 w d (k := 0) t3 (by decide) (by omega)
          have p1 := s_118 w d (k := 1) t3 (by decide) (by omega)
          have q0 := s_118 w d (k := 0) t4 (by decide) (by omega)
          have q1 := s_118 w d (k := 1) t4 (by decide) (by omega)
          rw [Int.add_zero] at p0 q0
          rw [ya1] at p1 q1
          exact ⟨σ4, σ5, p0, p1, e4, q0, q1, e5, ⟨yA_c (v5 _ _ (by omega)) (v5 _ _ (by omega)) u4, u5⟩, fun c k h h' => (v5 c k (by omega)).trans ((v4 c k (by omega)).trans (F3 c k h h'))⟩
        rcases cg with cg | cg
        · obtain ⟨σ4, σ5, p0, p1, e4, q0, q1, e5, u5, F5⟩ := les σ2 A hTb2 u2 qp F2
          rw [if_pos cg, s_113 w _ t, Option.bind_some]
          dsimp only
          rw [el, e1, Option.bind_some]
          dsimp only
          rw [if_pos (by omega), if_pos (by omega), r2, r2', r3, r3', r4, r4', e2, Option.bind_some]
          dsimp only
          rw [if_pos (by omega), if_pos (by omega), e2', Option.bind_some]
          dsimp only
          rw [if_neg (by omega), if_pos (by omega), p0, Option.bind_some]
          dsimp only
          rw [p1, Option.bind_some]
          dsimp only
          rw [e4, Option.bind_some]
          dsimp only
          rw [if_pos (by omega), q0, Option.bind_some]
          dsimp only
          rw [q1, Option.bind_some]
          dsimp only
          rw [e5, eW, zcb, if_pos cg]
          exact ⟨σ5, rfl, u5, F5⟩
        · obtain ⟨σ3, e3, u3, u3', v3⟩ := s_104 w (d := d) (by omega) (f := a + 4 + 2 * l) (g := a + 5 + 2 * l) (by omega) (by omega) (by omega) (by decide) u2.1 qp.1 u2.2 qp.2
          have qs : yQ2 2 6 ((if A.1 ≤ 0 ∧ 0 ≤ A.2 then 0 else min (max A.1 (-A.1)) (max A.2 (-A.2))), max (max A.1 (-A.1)) (max A.2 (-A.2))) := by
            refine ⟨?_, yQ_max (yQ_abs qp.1) (yQ_abs qp.2)⟩
            dsimp only
            split
            · exact yQ_0 (by decide)
            · exact yQ_min (yQ_abs qp.1) (yQ_abs qp.2)
          obtain ⟨σ4, σ5, p0, p1, e4, q0, q1, e5, u5, F5⟩ := les σ3 _ (zTb_fr (fun c k x y => v3 c k (by omega) (by omega)) hTb2) ⟨u3, u3'⟩ qs (fun c k h h' => (v3 c k (by omega) (by omega)).trans (F2 c k h h'))
          rw [if_neg (by omega), if_pos cg, s_113 w _ t, Option.bind_some]
          dsimp only
          rw [el, e1, Option.bind_some]
          dsimp only
          rw [if_pos (by omega), if_pos (by omega), r2, r2', r3, r3', r4, r4', e2, Option.bind_some]
          dsimp only
          rw [if_pos (by omega), if_pos (by omega), e2', Option.bind_some]
          dsimp only
          rw [if_pos cg, if_pos (by omega), if_pos (by omega), e3, Option.bind_some]
          dsimp only
          rw [if_pos (by omega), p0, Option.bind_some]
          dsimp only
          rw [p1, Option.bind_some]
          dsimp only
          rw [e4, Option.bind_some]
          dsimp only
          rw [if_pos (by omega), q0, Option.bind_some]
          dsimp only
          rw [q1, Option.bind_some]
          dsimp only
          rw [e5, eW, zcb, if_neg (by omega), if_pos cg]
          exact ⟨σ5, rfl, u5, F5⟩
      · obtain ⟨σ0, e0, R0, f0⟩ := s_105 w (d := d) (by omega) ha t (by omega) rfl eN g5 (r := r) (by omega) hR hb4
        have m := ymvr_b ⟨c1, c2⟩ g5 (C := 429 - 55 * T (11 * s + 3)) (by omega) hb
        rw [ya0, ya1, ya2] at R0 m
        have er : zar 0 r 1 = r + 1 := by rw [za_0, zw32_i (by omega)]
        have hTb0 : zTb 2 σ0 T n := zTb_fr (fun c k x y => f0 c k (by omega)) hTb
        have t0 := yTs_i hTb0 hT.2.1 h0 h1
        obtain ⟨σ1, e1, u1, v1⟩ := ih d (T (11 * s + 1)) (r + 1) (l + 1) _ σ0 (by omega) c3.1 (by omega) (by omega) (by omega) (by omega) (by omega) hTb0 R0 (yrb_i (by omega) m)
        obtain ⟨σ2', σ2, e2, e2', u2, v2⟩ := s_take2 w d ha (l := l) (by omega) u1
        rw [if_neg (by omega), if_neg (by omega), e6, e0, Option.bind_some]
        dsimp only
        rw [s_113 w _ t0, Option.bind_some]
        dsimp only
        rw [el, er, e1, Option.bind_some]
        dsimp only
        rw [if_pos (by omega), if_pos (by omega), r2, r2', r3, r3', r4, r4', e2, Option.bind_some]
        dsimp only
        rw [if_pos (by omega), if_pos (by omega), e2', eW, zcb, if_neg (by omega), if_neg (by omega)]
        exact ⟨σ2, rfl, u2, fun c k h h' => (v2 c k (by omega) (by omega)).trans ((v1 c k (by omega) (by omega)).trans (f0 c k (by omega)))⟩
end
