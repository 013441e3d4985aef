section
/-! Call 9, shape: both programs at once: a shape -/
theorem q_sim (w : zW) {n b : Int} {B : Int → Int} (hB : ytB n B) (hb : 0 ≤ b ∧ b ≤ 24) {d : Nat} (hd : 8 ≤ d) : ∀ (m e : Nat) (a i k r : Int) (σA σB : zMem), m + 10 ≤ e → n - a < m → qS n B b σA σB a r k → 0 ≤ i ∧ i ≤ a → 0 ≤ k → 0 ≤ r → 4 * k + 6 * r ≤ a → a ≤ n →
    (∃ σA' σB', qL w d σA 1 i = some (σB' 209 13, σA') ∧ zcall w e 304 [zA 13 32 209, zI k] σB = some (-1, σB') ∧ 0 ≤ σB' 209 13 ∧ qfA b r k σA σA' ∧ qfB r k σB σB') ∨ (∃ a' r' i' v2 v5 v6 v7 σA' σB', qL w d σA 1 i = qE w d σA' i' (b + r' - 1) (k - 1) v2 v5 v6 v7 ∧ zcall w e 304 [zA 13 32 209, zI k] σB = some (r' - 1, σB') ∧ qS n B b σA' σB' a' r' k ∧ r < r' ∧ a + 6 * (r' - r) ≤ a' ∧ a' ≤ n ∧ 0 ≤ i' ∧ i' + 1 ≤ a' ∧ qfA b r k σA σA' ∧ qfB r k σB σB') := by
  have hn := hB.2.1
  intro m
  induction m with
  | zero => intro e a i k r σA σB he hm S hi hk hr hp ha; omega
  | succ m ih =>
    intro e a i k r σA σB he hm S hi hk hr hp ha
    obtain ⟨e, rfl⟩ : ∃ e', e = e' + 1 + 1 := ⟨e - 2, by omega⟩
    obtain ⟨tC, e2, e3, e4, e5, e27, tk, e17, rows⟩ := id S
    have yb := ysk_b hB ha
    have g2 : zup σA 78 2 (ysk n B a) 78 2 = ysk n B a := zup_t ⟨rfl, rfl, by decide⟩
    have t1 : ytC (zup σA 78 2 (ysk n B a)) n B := ytC_u (by decide) (Or.inr (by decide)) tC
    obtain ⟨l1, l2, -, l4⟩ := ysc_b hB plt_0 _ (ysk n B a) rfl
    obtain ⟨tR, t13, u0, u1, u2, u3, u4⟩ := id tk
    have eL := qL_1 w d σA (i := i) (by omega)
    have eB : zcall w (d + 2) 69 [zA 7 11 78, zA 10 8 2] σA = _ := eX6_begin w (d + 1) 2 σA
    rw [s_75 w (by omega) hB tC e2 (by omega), Option.bind_some] at eB
    dsimp only at eB
    rw [s_77 w (by omega) hB t1 (by omega) yb.2.1 g2, Option.bind_some] at eB
    dsimp only at eB
    rw [g2, zup_2 (by decide)] at eB
    have x123 := ykw_x B (ysk n B a) (ysc plt n B (ysk n B a))
    have y3 := fun h => ykw_3 (B := B) (b := ysk n B a) (e := ysc plt n B (ysk n B a)) h
    generalize hb1 : ysk n B a = b1 at *
    generalize he1 : ysc plt n B b1 = e1 at *
    generalize hK0 : ykw B b1 e1 = K at *
    generalize hX0 : ywx B b1 e1 = X at *
    obtain ⟨x1, x2, x3⟩ := x123
    by_cases hK : K = -1
    · rw [if_pos hK, eX6_isFault, Option.bind_some] at eB
      dsimp only at eB
      rw [if_pos (by decide)] at eB
      rw [eB, Option.bind_some] at eL
      dsimp only at eL
      rw [qL_0, zup_t ⟨rfl, rfl, by decide⟩] at eL
      refine Or.inl ⟨_, σB, by rw [t13]; exact eL, ?_, by omega, fun c t h1 h2 h3 h4 h5 h6 => by rw [zup_f (by omega), zup_f (by omega)], fun _ _ _ _ _ => rfl⟩
      rw [eX12_shapeRead]
      by_cases c14 : σB 209 14 = 1
      · have lt : 97 ≤ B b1 ∧ B b1 ≤ 122 := Classical.byContradiction fun u => by
          by_cases w0 : B b1 = -1
          · have := (u0 w0).1; omega
          · by_cases w2 : 48 ≤ B b1 ∧ B b1 ≤ 57
            · have := (u2 w2).1; omega
            · by_cases w3 : B b1 = 45 ∨ B b1 = 40 ∨ B b1 = 44 ∨ B b1 = 41
              · have := (u3 w3).1; omega
              · have := (u4 ⟨w0, u, w2, w3⟩).1; omega
        have k15 := (u1 lt).2.2
        have xn : X < 0 := Classical.byContradiction fun u => by
          rw [if_neg u, hK] at x3
          by_cases c3 : X < 3
          · rw [if_pos c3] at x3; omega
          · rw [if_neg c3] at x3; omega
        rw [if_pos c14, if_pos (show σB 209 15 < 0 by omega), hX12_shapeRead_7]
      · rw [if_neg c14, hX12_shapeRead_7]
    · obtain ⟨w3, w6, wk⟩ := y3 hK
      have lt := plt_i.1 (l4 b1 (Int.le_refl _) (by omega))
      obtain ⟨k14, k12, k15⟩ := u1 lt
      have zz := zno_b K
      have zz6 := zno_b6 K
      have x0 : ¬ X < 0 := fun u => by rw [if_pos u] at x3; exact hK x3
      rw [if_neg x0] at x3
      rw [if_neg hK] at eB
      have en : e1 ≤ n := by omega
      /- the reference's way to the numbers -/
      obtain ⟨σB1, n1, tk1, fB1⟩ := s_300 w (d := e + 1) (by omega) hB tR (a := e1) (by omega) en k12
      have eR : zcall w (e + 1 + 1) 304 [zA 13 32 209, zI k] σB = (zden w (e + 1) 303 2 [zA 13 32 209, zI K, zI 759, zI 0, zU, zU, zU] [] σB1).bind fun r2 => if r2.1 = 0 then some (-1, r2.2) else zden w (e + 1 + 1) 304 41 [zA 13 32 209, zI k, zI b1, zI K, zI 759, zI 0, zU, zU, zU, zU, zU] [] r2.2 := by
        have e27' : zcall w (e + 1 + 1) 304 [zA 13 32 209, zI k] σB = zden w (e + 1 + 1) 304 27 [zA 13 32 209, zI k, zI b1, zU, zU, zU, zU, zU, zU, zU, zU] [zI K] σB := by
          rw [eX12_shapeRead, if_pos k14, if_neg (show ¬ σB 209 15 < 0 by omega)]
          by_cases c3 : X < 3
          · rw [if_pos c3] at x3
            rw [if_pos (show σB 209 15 < 3 by omega), t13, k15, za_0, zw32_i (by omega), x3]
          · rw [if_neg c3] at x3
            rw [if_neg (show ¬ σB 209 15 < 3 by omega), t13, k15, za_0, zw32_i (by omega), za_1, zw32_i (by omega), x3, show 8 + X - 3 = 5 + X by omega]
        rw [e27', hX12_shapeRead_27, n1, Option.bind_some]
        dsimp only
        rw [eX12_areRead]
      rcases q_num w (d := d + 1) (e := e) (by omega) (by omega) (x2 := b1) hB wk (zno K).toNat 0 e1 (zup σA 78 2 e1) σB1 zU zU zU (by decide) (by omega) (by omega) en (ytC_u (by decide) (Or.inr (by decide)) tC) (zup_t ⟨rfl, rfl, by decide⟩) tk1 (fun j x y => by omega) (fun j x y => by omega) with ⟨a1, σA2, σB2, m1, m2, m3, m4, tC2, a2, tk2, ag, hN, mA, mB⟩ | ⟨σA2, σB2, m1, m2, m3, m4, mA, mB⟩
      rotate_left
      · rw [eB] at eL
        have eL2 := eL.trans (congrArg (fun X => X.bind fun r => qL w d r.2 r.1 (i + 1)) m1)
        rw [Option.bind_some] at eL2
        dsimp only at eL2
        rw [qL_0, m3] at eL2
        rw [m2, Option.bind_some] at eR
        dsimp only at eR
        rw [if_pos rfl] at eR
        exact Or.inl ⟨σA2, σB2, eL2, eR, m4, fun c t h1 h2 h3 h4 h5 h6 => by rw [mA c t h2 (by omega), zup_f (by omega)], fun c t h1 h2 h3 => by rw [mB c t (by omega) (by omega), fB1 c t (by omega)]⟩
      · rw [eB] at eL
        have eL2 := eL.trans (congrArg (fun X => X.bind fun r => qL w d r.2 r.1 (i + 1)) m1)
        have m3' : e1 + zno K ≤ a1 := by omega
        have eN := hX6_begin_17 w (d + 1) 2 b1 K (zno K) σA2
        rw [s_29 w (d + 1) wk, Option.bind_some] at eN
        dsimp only at eN
        rw [if_neg (show ¬ zno K < zno K by omega), s_27, Option.bind_some] at eN
        dsimp only at eN
        rw [zt_if] at eN
        rw [m2, Option.bind_some] at eR
        dsimp only at eR
        rw [if_neg (show ¬ (1 : Int) = 0 by decide)] at eR
        obtain ⟨σB3, o1, o2, o3⟩ := l_41 w (e := e + 1) (k := k) (x2 := b1) (x3 := K) (by omega) 6 0 σB2 (by decide) (by decide)
        rw [o1, hX12_shapeRead_41, if_neg (show ¬ (6 : Int) < 6 by decide)] at eR
        have tk3 : ytk σB3 n B a1 := ytk_f (fun t _ _ => o3 _ _ (by omega)) (fun t => o3 _ _ (by omega)) tk2
        have ag3 : ∀ j, 0 ≤ j → j < zno K → σA2 84 j = σB3 225 (6 * k + j) := fun j x y => (ag j x y).trans (o2 j x (by omega)).symm
        have FA2 : ∀ c t, c ≠ 84 → (c ≠ 78 ∨ t ≠ 2) → σA2 c t = σA c t := fun c t x y => (mA c t x y).trans (zup_f (by omega))
        have FB3 : ∀ c t, (c = 209 → t < 12 ∨ 15 < t) → (c = 224 → t < 759) → (c = 225 → t < 6 * k) → σB3 c t = σB c t := fun c t x y z => (o3 c t (by omega)).trans ((mB c t (by omega) (by omega)).trans (fB1 c t (by omega)))
        have yb1 := ysk_b hB m4
        by_cases c5 : K ≤ 5
        · have z4 : 4 ≤ zno K := by
            have : K = 3 ∨ K = 4 ∨ K = 5 := by omega
            rcases this with q | q | q <;> rw [q] <;> decide
          have hkr : qkr b (b + r) K (-1) (-1) := Or.inl ⟨by omega, c5, rfl, rfl⟩
          have hkp : qkp σA2 K (-1) (-1) := Or.inl ⟨by omega, c5, rfl, rfl⟩
          have de0 : qde σA2 K (-1) (-1) = 0 := if_pos c5
          have bl0 : qbl σA2 K (-1) (-1) = 0 := by unfold qbl; rw [if_pos c5, if_neg (by omega)]; rfl
          obtain ⟨σA3, q1, q2, q3, q4, q5, q6, q7, q8, q9, qA, qB, qC⟩ := s_72 w (d := d + 1) (by omega) (σ := σA2) ((FA2 _ _ (by decide) (by omega)).trans e27) ((FA2 _ _ (by decide) (by omega)).trans e4) hb.1 hr (by omega) hkr hkp
          rw [if_pos (show 3 ≤ K ∧ K ≤ 5 by omega), q1, Option.bind_some] at eN
          dsimp only at eN
          have e71 : zcall w (d + 1) 71 [zA 7 11 78, zA 10 8 2, zI (b + r)] σA3 = zden w (d + 1) 71 9 [zA 7 11 78, zA 10 8 2, zI (b + r), zI (b + r), zI (k - 1), zU, zU, zU] [] σA3 := by
            rw [eX6_end, s_343, Option.bind_some]
            dsimp only
            rw [qA _ _ (by decide) (by omega), FA2 _ _ (by decide) (by omega), e5, Int.min_eq_left (by omega), za_1, zw32_i (by omega)]
          rw [e71] at eN
          have eL3 : qL w d σA 1 i = qE w d σA3 i (b + r) (k - 1) (zI (b + r)) zU zU zU := by rw [eL2, eN]; rfl
          have n5 : ¬ 5 < K := by omega
          have D0 : qDe (σB3 224) K (-1) (-1) = 0 := if_pos c5
          have B0 : qBl (σB3 224) K (-1) (-1) = 0 := by unfold qBl; rw [if_pos c5, if_neg (by omega)]; rfl
          rw [if_neg n5, l_107 w (e := e + 1) (by omega) (fun u => absurd u n5) (fun u => absurd u n5), D0, B0, if_neg (by decide), if_neg n5] at eR
          obtain ⟨σB4, r1, r2, r3, r4, r5, r6, r7, r8, r9⟩ := l_186 w (e := e + 1) (k := k) (r := r) (x3 := K) (x5 := -1) (x6 := -1) (x7 := 0) (x8 := 0) (v2 := zI b1) (v4 := zI 759) (σ := σB3) (by omega) (by omega) ((FB3 _ _ (by omega) (by omega) (by omega)).trans e17)
          rw [r1] at eR
          have newrow := q_row (b := b) (r := r) (kk := k) (k := K) (p := -1) (q := -1) (σA := σA2) (σA' := σA3) (σB := σB3) (σB' := σB4) hb.1 hr (by omega) hkr hkp (by rw [de0]; decide) (by rw [bl0]; decide) hN ag3 q2 q3 q4 q5 q6 q7 q8 qB r3 (by rw [r4]; rfl) (by rw [r5]; rfl) (by rw [r6, de0]) (by rw [r7, bl0]) r8
          have FA : ∀ c t, c ≠ 84 → (c ≠ 78 ∨ (t ≠ 2 ∧ t ≠ 4)) → (3 ≤ c ∧ c ≤ 8 → t ≠ b + r) → (c = 9 → t < 6 * (b + r) ∨ 6 * (b + r) + 6 ≤ t) → σA3 c t = σA c t := by
            intro c t h1 h2 h3 h4
            rw [← FA2 c t h1 (by omega)]
            by_cases c9 : c = 9
            · rw [c9]; exact qC t (h4 c9)
            · by_cases c3 : 3 ≤ c ∧ c ≤ 8
              · exact qB c t c3.1 c3.2 (h3 c3)
              · exact qA c t (by omega) (by omega)
          have FB : ∀ c t, (c = 209 → t < 12 ∨ (15 < t ∧ t ≠ 17)) → (c = 224 → t < 11 * r) → (c = 225 → t < 6 * k) → σB4 c t = σB c t := fun c t h1 h2 h3 => (r9 c t (by omega) (by omega)).trans (FB3 c t (by omega) (by omega) h3)
          refine Or.inr ⟨a1, r + 1, i, zI (b + r), zU, zU, zU, σA3, σB4, ?_, ?_, ⟨?_, ?_, ?_, q9, ?_, ?_, ?_, r2, fun s s0 s1 => ?_⟩, by omega, by omega, m4, hi.1, by omega, fun c t h1 h2 h3 h4 h5 h6 => FA c t h2 (by omega) (fun x => by have := h5 x; omega) (fun x => by have := h6 x; omega), fun c t h1 h2 h3 => FB c t h1 h2 h3⟩
          · rw [show b + (r + 1) - 1 = b + r by omega]; exact eL3
          · rw [show r + 1 - 1 = r by omega]; exact eR
          · exact ytC_f (FA _ _ (by decide) (by omega) (by omega) (by omega)) (fun t => FA _ _ (by decide) (by omega) (by omega) (by omega)) tC
          · rw [qA _ _ (by decide) (by omega)]; exact a2
          · exact (FA _ _ (by decide) (by omega) (by omega) (by omega)).trans e3
          · exact (FA _ _ (by decide) (by omega) (by omega) (by omega)).trans e5
          · exact (FA _ _ (by decide) (by omega) (by omega) (by omega)).trans e27
          · exact ytk_f (fun t _ _ => r9 _ _ (by omega) (by omega)) (fun t => r9 _ _ (by omega) (by omega)) tk3
          · by_cases sr : s = r
            · rw [sr]; exact newrow
            · obtain ⟨ra, rb⟩ := rows s s0 (by omega)
              exact ⟨qrA_f (σ := σA) hb.1 (by omega) (fun a t x y z v => FA a t (by omega) (by omega) (fun _ => by omega) (fun _ => by omega)) (fun t x => FA _ _ (by decide) (by omega) (fun _ => by omega) (fun _ => by omega)) ra, qrB_f (σA := σA) (σB := σB) hb.1 s0 (fun a t x y z v => FA a t (by omega) (by omega) (fun _ => by omega) (fun _ => by omega)) (fun t x => FA _ _ (by decide) (by omega) (fun _ => by omega) (fun _ => by omega)) (fun t x => FB _ _ (fun _ => by omega) (fun _ => by omega) (fun _ => by omega)) rb⟩
        · have k8 : 8 ≤ K := by omega
          have y5 : 5 < K := by omega
          have wd0 : 0 ≤ b1 := by omega
          rw [if_neg (show ¬ (3 ≤ K ∧ K ≤ 5) by omega)] at eN
          rw [if_pos y5] at eR
          have s40 := s_76 w (d := d + 1) (by omega) (c := 40) hB tC2 a2 ⟨by omega, m4⟩
          rcases s_301 w (d := e + 1) (by omega) hB (by omega) m4 tk3 (c := 40) (by decide) with ⟨q, eq⟩ | ⟨q, ql, σB4, eq, tk4, f4⟩
          · rw [s40, if_neg q, Option.bind_some] at eN
            dsimp only at eN
            rw [if_pos rfl] at eN
            rw [eN, Option.bind_some] at eL2
            dsimp only at eL2
            rw [qL_0, zup_t ⟨rfl, rfl, by decide⟩] at eL2
            rw [eq, Option.bind_some] at eR
            dsimp only at eR
            rw [if_pos rfl, hX12_shapeRead_78, if_pos (by decide)] at eR
            exact Or.inl ⟨_, σB3, by rw [tk3.2.1]; exact eL2, eR, by rw [tk3.2.1]; omega, fun c t h1 h2 h3 h4 h5 h6 => by rw [zup_f (by omega), zup_f (by omega), FA2 c t h2 (by omega)], fun c t h1 h2 h3 => FB3 c t (by omega) (by omega) h3⟩
          · obtain ⟨μ, hμ⟩ : ∃ μ, μ = zup σA2 78 2 (ysk n B a1 + 1) := ⟨_, rfl⟩
            have fμ : ∀ c t, (c ≠ 78 ∨ t ≠ 2) → μ c t = σA2 c t := fun c t u => by rw [hμ]; exact zup_f (by omega)
            obtain ⟨σA4, p1, p2, p3, p4, p5, p6, p7⟩ := s_70 w (d := d) (o := k) (k := K) (word := b1) (σ := μ) (by rw [fμ _ _ (by omega), FA2 _ _ (by decide) (by omega)]; exact e5) ⟨hk, by omega⟩
            rw [s40, if_pos q, ← hμ, Option.bind_some] at eN
            dsimp only at eN
            rw [if_neg (show ¬ (1 : Int) = 0 by decide), p1, Option.bind_some] at eN
            dsimp only at eN
            rw [if_neg (show ¬ (1 : Int) = 0 by decide)] at eN
            rw [eN, Option.bind_some] at eL2
            dsimp only at eL2
            rw [eq, Option.bind_some] at eR
            dsimp only at eR
            rw [if_neg (show ¬ (1 : Int) = 0 by decide), za_0, zw32_i (by omega)] at eR
            have FA4 : ∀ c t, c ≠ 84 → (c ≠ 78 ∨ (t ≠ 2 ∧ t ≠ 5)) → (80 ≤ c ∧ c ≤ 82 → t ≠ k) → (c = 83 → t < 6 * k ∨ 6 * k + 6 ≤ t) → σA4 c t = σA c t := fun c t h1 h2 h3 h4 => by
              rw [p7 c t (by omega) (by omega) (by omega) (by omega) (by omega), fμ c t (by omega), FA2 c t h1 (by omega)]
            have FB4 : ∀ c t, (c = 209 → t < 12 ∨ 15 < t) → (c = 224 → t < 759) → (c = 225 → t < 6 * k) → σB4 c t = σB c t := fun c t x y z => (f4 c t (by omega)).trans (FB3 c t x y z)
            have QA : qfA b r k σA σA4 := fun c t h1 h2 h3 h4 h5 h6 => FA4 c t h2 (by omega) (fun x => by have := h3 x; omega) (fun x => by have := h4 x; omega)
            have QB : qfB r k σB σB4 := fun c t h1 h2 h3 => FB4 c t (by omega) (by omega) h3
            have S4 : qS n B b σA4 σB4 (ysk n B a1 + 1) r (k + 1) := by
              refine ⟨ytC_f (FA4 _ _ (by decide) (by omega) (by omega) (by omega)) (fun t => FA4 _ _ (by decide) (by omega) (by omega) (by omega)) tC, ?_, (FA4 _ _ (by decide) (by omega) (by omega) (by omega)).trans e3, (FA4 _ _ (by decide) (by omega) (by omega) (by omega)).trans e4, p6, (FA4 _ _ (by decide) (by omega) (by omega) (by omega)).trans e27, tk4, (FB4 _ _ (by omega) (by omega) (by omega)).trans e17, fun s s0 s1 => ?_⟩
              · rw [p7 _ _ (by omega) (by omega) (by omega) (by omega) (by omega), hμ]; exact zup_t ⟨rfl, rfl, by decide⟩
              · obtain ⟨ra, rb⟩ := rows s s0 s1
                exact ⟨qrA_f (σ := σA) hb.1 (by omega) (fun a t x y z v => FA4 a t (by omega) (by omega) (by omega) (by omega)) (fun t x => FA4 _ _ (by decide) (by omega) (by omega) (by omega)) ra, qrB_f (σA := σA) (σB := σB) hb.1 s0 (fun a t x y z v => FA4 a t (by omega) (by omega) (by omega) (by omega)) (fun t x => FA4 _ _ (by decide) (by omega) (by omega) (by omega)) (fun t x => FB4 _ _ (fun _ => by omega) (fun _ => by omega) (fun _ => by omega)) rb⟩
            have hN4 : zNV K (fun j => σA4 83 (6 * k + j)) := zNV_c (fun j x y => by rw [p5 j x y, fμ _ _ (by omega)]) hN
            have ag4 : ∀ j, 0 ≤ j → j < zno K → σA4 83 (6 * k + j) = σB4 225 (6 * k + j) := fun j x y => by rw [p5 j x (by omega), fμ _ _ (by omega), f4 _ _ (by omega)]; exact ag3 j x y
            rcases ih (e + 1) (ysk n B a1 + 1) (i + 1) (k + 1) r σA4 σB4 (by omega) (by omega) S4 (by omega) (by omega) hr (by omega) ql with ⟨σA5, σB5, c1, c2, c3, c4, c6⟩ | ⟨a5, r5, i5, v2, v5, v6, v7, σA5, σB5, c1, c2, S5, c3, c4, c6, c7, c8, FA5, FB5⟩
            · rw [c2, Option.bind_some] at eR
              dsimp only at eR
              rw [hX12_shapeRead_78, if_pos (by decide)] at eR
              exact Or.inl ⟨σA5, σB5, eL2.trans c1, eR, c3, qfA_t (Int.le_refl _) (by omega) QA c4, qfB_t (Int.le_refl _) (by omega) QB c6⟩
            · have QA5 := qfA_t (Int.le_refl _) (by omega) QA FA5
              have QB5 := qfB_t (Int.le_refl _) (by omega) QB FB5
              have r5b : 0 ≤ r5 ∧ r5 < 60 := by omega
              have s80 : σA5 80 k = K := (FA5 _ _ (by omega) (by decide) (by omega) (by omega) (by omega) (by omega)).trans p2
              have s81 : σA5 81 k = b1 := (FA5 _ _ (by omega) (by decide) (by omega) (by omega) (by omega) (by omega)).trans p3
              have s82 : σA5 82 k = -1 := (FA5 _ _ (by omega) (by decide) (by omega) (by omega) (by omega) (by omega)).trans p4
              have s83 : ∀ j, 0 ≤ j → j < 6 → σA5 83 (6 * k + j) = σA4 83 (6 * k + j) := fun j x y => FA5 _ _ (by omega) (by decide) (by omega) (by omega) (by omega) (by omega)
              have s225 : ∀ j, 0 ≤ j → j < 6 → σB5 225 (6 * k + j) = σB4 225 (6 * k + j) := fun j x y => FB5 _ _ (by omega) (by omega) (by omega)
              have hN5 : zNV K (fun j => σA5 83 (6 * k + j)) := zNV_c (fun j x y => s83 j x y) hN4
              have ag5 : ∀ j, 0 ≤ j → j < zno K → σA5 83 (6 * k + j) = σB5 225 (6 * k + j) := fun j x y => by rw [s83 j x (by omega), s225 j x (by omega)]; exact ag4 j x y
              have eL5 := eL2.trans c1
              rw [show k + 1 - 1 = k by omega] at eL5
              rw [c2, Option.bind_some] at eR
              dsimp only at eR
              rw [hX12_shapeRead_78, if_neg (show ¬ r5 - 1 < 0 by omega)] at eR
              by_cases c11 : 11 < K
              · rw [if_pos c11] at eR
                have hc := q_close w hB hb hd (e := e + 1) (by omega) (a := a5) (i := i5) (k := k) (r := r5) (K := K) (word := b1) (f := b + r5 - 1) (g := -1) (la := b + r5 - 1) (v2 := v2) (v5 := v5) (v6 := v6) (v7 := v7) (v4 := zlng 0 (zI 759)) S5 ⟨by omega, c6⟩ ⟨hk, by omega⟩ r5b s80 s81 wd0 hN5 ag5 (by omega) (Or.inr ⟨by omega, by omega, ⟨by omega, by omega⟩, rfl, rfl⟩)
                rw [show b + r5 - 1 - b = r5 - 1 by omega, if_pos (show (-1 : Int) < 0 by decide)] at hc
                rcases hc with ⟨σA6, σB6, d1, d2, d3, d4, d5⟩ | ⟨a6, w2, w5, w6', w7, σA6, σB6, d1, d2, S6, d3, d4, d5, d6⟩
                · exact Or.inl ⟨σA6, σB6, eL5.trans d1, eR.trans d2, d3, qfA_t (by omega) (Int.le_refl _) QA5 d4, qfB_t (by omega) (Int.le_refl _) QB5 d5⟩
                · have z2 : 2 ≤ zno K := by
                    have : K = 12 ∨ K = 13 ∨ K = 14 ∨ K = 15 ∨ K = 16 ∨ K = 17 := by omega
                    rcases this with q | q | q | q | q | q <;> rw [q] <;> decide
                  exact Or.inr ⟨a6, r5 + 1, i5, w2, w5, w6', w7, σA6, σB6, by rw [show b + (r5 + 1) - 1 = b + r5 by omega]; exact eL5.trans d1, by rw [show r5 + 1 - 1 = r5 by omega]; exact eR.trans d2, S6, by omega, by omega, d4, c7, by omega, qfA_t (by omega) (Int.le_refl _) QA5 d5, qfB_t (by omega) (Int.le_refl _) QB5 d6⟩
              · rw [if_neg c11] at eR
                obtain ⟨tC5, q2, q3, q4, q5, q27, tk5, q17, rows5⟩ := id S5
                have yb5 := ysk_b hB c6
                have ef := e_first w (d := d) (by omega) (a := a5) (la := b + r5 - 1) (t := k) (v2 := v2) (v5 := v5) (v6 := v6) (v7 := v7) hB tC5 q2 ⟨by omega, c6⟩ ⟨hk, by omega⟩ (by omega) s82
                rcases s_301 w (d := e + 1) (by omega) hB (by omega) c6 tk5 (c := 44) (by decide) with ⟨g, eg⟩ | ⟨g, gl, σB6, eg, tk6, f6⟩
                · rw [if_neg g] at ef
                  have h0 := qE_0 w (i := i5) ef
                  rw [zup_t ⟨rfl, rfl, by decide⟩] at h0
                  rw [eg, Option.bind_some] at eR
                  dsimp only at eR
                  rw [if_pos rfl, hX12_shapeRead_97, if_pos (by decide)] at eR
                  exact Or.inl ⟨_, σB5, by rw [tk5.2.1]; exact eL5.trans h0, eR, by rw [tk5.2.1]; omega, fun c t h1 h2 h3 h4 h5 h6 => by rw [zup_f (by omega), zup_f (by omega), zup_f (by omega), QA5 c t h1 h2 h3 h4 h5 h6], QB5⟩
                · rw [if_pos g] at ef
                  have h1 := qE_1 w (i := i5) ef
                  obtain ⟨σA6, hσ6⟩ : ∃ σA6, σA6 = zup (zup σA5 82 k (b + r5 - 1)) 78 2 (ysk n B a5 + 1) := ⟨_, rfl⟩
                  rw [← hσ6] at h1
                  have F6 : ∀ c t, (c ≠ 78 ∨ t ≠ 2) → (c ≠ 82 ∨ t ≠ k) → σA6 c t = σA5 c t := fun c t x y => by rw [hσ6, zup_f (by omega), zup_f (by omega)]
                  rw [eg, Option.bind_some] at eR
                  dsimp only at eR
                  rw [if_neg (show ¬ (1 : Int) = 0 by decide), za_0, zw32_i (by omega)] at eR
                  have S6 : qS n B b σA6 σB6 (ysk n B a5 + 1) r5 (k + 1) := by
                    refine ⟨ytC_f (F6 _ _ (by omega) (by omega)) (fun t => F6 _ _ (by omega) (by omega)) tC5, by rw [hσ6]; exact zup_t ⟨rfl, rfl, by decide⟩, (F6 _ _ (by omega) (by omega)).trans q3, (F6 _ _ (by omega) (by omega)).trans q4, (F6 _ _ (by omega) (by omega)).trans q5, (F6 _ _ (by omega) (by omega)).trans q27, tk6, (f6 _ _ (by omega)).trans q17, fun s s0 s1 => ?_⟩
                    obtain ⟨ra, rb⟩ := rows5 s s0 s1
                    exact ⟨qrA_f (σ := σA5) hb.1 (by omega) (fun a t x y z v => F6 a t (by omega) (by omega)) (fun t x => F6 _ _ (by omega) (by omega)) ra, qrB_f (σA := σA5) (σB := σB5) hb.1 s0 (fun a t x y z v => F6 a t (by omega) (by omega)) (fun t x => F6 _ _ (by omega) (by omega)) (fun t x => f6 _ _ (by omega)) rb⟩
                  have QA6 : qfA b r k σA σA6 := fun c t h1 h2 h3 h4 h5 h6 => (F6 c t (by omega) (by omega)).trans (QA5 c t h1 h2 h3 h4 h5 h6)
                  have QB6 : qfB r k σB σB6 := fun c t h1 h2 h3 => (f6 c t (by omega)).trans (QB5 c t h1 h2 h3)
                  rcases ih (e + 1) (ysk n B a5 + 1) (i5 + 1) (k + 1) r5 σA6 σB6 (by omega) (by omega) S6 (by omega) (by omega) r5b.1 (by omega) gl with ⟨σA7, σB7, g1, g2', g3, g4, g5⟩ | ⟨a7, r7, i7, w2, w5, w6', w7, σA7, σB7, g1, g2', S7, g3, g4, g5, g6, g7, FA7, FB7⟩
                  · rw [g2', Option.bind_some] at eR
                    dsimp only at eR
                    rw [hX12_shapeRead_97, if_pos (by decide)] at eR
                    exact Or.inl ⟨σA7, σB7, (eL5.trans h1).trans g1, eR, g3, qfA_t (by omega) (by omega) QA6 g4, qfB_t (by omega) (by omega) QB6 g5⟩
                  · have QA7 := qfA_t (show r ≤ r5 by omega) (show k ≤ k + 1 by omega) QA6 FA7
                    have QB7 := qfB_t (show r ≤ r5 by omega) (show k ≤ k + 1 by omega) QB6 FB7
                    have eL7 := (eL5.trans h1).trans g1
                    rw [show k + 1 - 1 = k by omega] at eL7
                    rw [g2', Option.bind_some] at eR
                    dsimp only at eR
                    rw [hX12_shapeRead_97, if_neg (show ¬ r7 - 1 < 0 by omega)] at eR
                    have T : ∀ c, 80 ≤ c → c ≤ 82 → σA7 c k = σA6 c k := fun c x y => FA7 _ _ (by omega) (by omega) (by omega) (by omega) (by omega) (by omega)
                    have T83 : ∀ j, 0 ≤ j → j < 6 → σA7 83 (6 * k + j) = σA5 83 (6 * k + j) := fun j x y => (FA7 _ _ (by omega) (by decide) (by omega) (by omega) (by omega) (by omega)).trans (F6 _ _ (by omega) (by omega))
                    have T225 : ∀ j, 0 ≤ j → j < 6 → σB7 225 (6 * k + j) = σB5 225 (6 * k + j) := fun j x y => (FB7 _ _ (by omega) (by omega) (by omega)).trans (f6 _ _ (by omega))
                    have hc := q_close w hB hb hd (e := e + 1) (by omega) (a := a7) (i := i7) (k := k) (r := r7) (K := K) (word := b1) (f := b + r5 - 1) (g := b + r7 - 1) (la := b + r7 - 1) (v2 := w2) (v5 := w5) (v6 := w6') (v7 := w7) (v4 := zlng 0 (zI 759)) S7 ⟨by omega, g5⟩ ⟨hk, by omega⟩ (by omega) ((T 80 (by decide) (by decide)).trans ((F6 _ _ (by omega) (by omega)).trans s80)) ((T 81 (by decide) (by decide)).trans ((F6 _ _ (by omega) (by omega)).trans s81)) wd0 (zNV_c (fun j x y => T83 j x y) hN5) (fun j x y => by rw [T83 j x (by omega), T225 j x (by omega)]; exact ag5 j x y) (by omega) (Or.inl ⟨k8, by omega, (T 82 (by decide) (by decide)).trans (by rw [hσ6, zup_f (by omega), zup_t ⟨rfl, rfl, by decide⟩]), ⟨by omega, by omega⟩, ⟨by omega, by omega⟩, rfl⟩)
                    rw [show b + r5 - 1 - b = r5 - 1 by omega, if_neg (show ¬ b + r7 - 1 < 0 by omega), show b + r7 - 1 - b = r7 - 1 by omega] at hc
                    rcases hc with ⟨σA8, σB8, d1, d2, d3, d4, d5⟩ | ⟨a8, z2, z5, z6, z7, σA8, σB8, d1, d2, S8, d3, d4, d5, d6⟩
                    · exact Or.inl ⟨σA8, σB8, eL7.trans d1, eR.trans d2, d3, qfA_t (by omega) (Int.le_refl _) QA7 d4, qfB_t (by omega) (Int.le_refl _) QB7 d5⟩
                    · exact Or.inr ⟨a8, r7 + 1, i7, z2, z5, z6, z7, σA8, σB8, by rw [show b + (r7 + 1) - 1 = b + r7 by omega]; exact eL7.trans d1, by rw [show r7 + 1 - 1 = r7 by omega]; exact eR.trans d2, S8, by omega, by omega, d4, g6, by omega, qfA_t (by omega) (Int.le_refl _) QA7 d5, qfB_t (by omega) (Int.le_refl _) QB7 d6⟩
end
