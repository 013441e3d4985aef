section
/-! Call 6: says -/
/-- whether a kind is under another -/
abbrev yun (k x : Int) : Prop := x = 0 ∨ k = x ∨ (x = 1 ∧ k ≤ 5) ∨ (x = 2 ∧ 8 ≤ k) ∨ (x = 6 ∧ 8 ≤ k ∧ k ≤ 11) ∨ (x = 7 ∧ 12 ≤ k) ∨ (x = 16 ∧ k = 17)
theorem s_26 (w : zW) (d : Nat) {k x : Int} (hk : (3 ≤ k ∧ k ≤ 5) ∨ (8 ≤ k ∧ k ≤ 17)) (hx : 0 ≤ x ∧ x ≤ 17) (σ : zMem) : zcall w d 26 [zI k, zI x] σ = some (zt (yun k x), σ) := by
  have st : ∀ (k i u j : Int) (v : zV), 0 ≤ k ∧ k < 18 → 0 ≤ i ∧ i < 18 → zR w (-2) k = u → i + 1 = j → zden w d 26 4 [v, zI x, zI k, zI i] [] σ = if k = x then some (1, σ) else zden w d 26 4 [v, zI x, zI u, zI j] [] σ := by
    intro k i u j v a b c e
    rw [kX2_isUnder_4, if_pos b.2, if_neg (show ¬ k < 0 by omega), if_pos a.2, if_pos a, c, za_0, zw32_i (by omega), e]
  have en : ∀ (i : Int) (v : zV), 0 ≤ i ∧ i < 18 → zden w d 26 4 [v, zI x, zI (-1), zI i] [] σ = some (0, σ) := by
    intro i v b
    rw [kX2_isUnder_4, if_pos b.2, if_neg (show ¬ (-1 : Int) = x by omega), if_pos (by decide)]
  rw [eX2_isUnder]
  have : k = 3 ∨ k = 4 ∨ k = 5 ∨ k = 8 ∨ k = 9 ∨ k = 10 ∨ k = 11 ∨ k = 12 ∨ k = 13 ∨ k = 14 ∨ k = 15 ∨ k = 16 ∨ k = 17 := by omega
  rcases this with rfl | rfl | rfl | rfl | rfl | rfl | rfl | rfl | rfl | rfl | rfl | rfl | rfl
  · rw [st 3 0 (1) 1 _ (by decide) (by decide) rfl rfl, st 1 1 (0) 2 _ (by decide) (by decide) rfl rfl, st 0 2 (-1) 3 _ (by decide) (by decide) rfl rfl, en 3 _ (by decide)]; by_cases c : yun 3 x
    · rw [zt_p c]; unfold yun at c; (repeat' split) <;> first | rfl | (exfalso; omega)
    · rw [zt_n c]; unfold yun at c; (repeat' split) <;> first | rfl | (exfalso; omega)
  · rw [st 4 0 (1) 1 _ (by decide) (by decide) rfl rfl, st 1 1 (0) 2 _ (by decide) (by decide) rfl rfl, st 0 2 (-1) 3 _ (by decide) (by decide) rfl rfl, en 3 _ (by decide)]; by_cases c : yun 4 x
    · rw [zt_p c]; unfold yun at c; (repeat' split) <;> first | rfl | (exfalso; omega)
    · rw [zt_n c]; unfold yun at c; (repeat' split) <;> first | rfl | (exfalso; omega)
  · rw [st 5 0 (1) 1 _ (by decide) (by decide) rfl rfl, st 1 1 (0) 2 _ (by decide) (by decide) rfl rfl, st 0 2 (-1) 3 _ (by decide) (by decide) rfl rfl, en 3 _ (by decide)]; by_cases c : yun 5 x
    · rw [zt_p c]; unfold yun at c; (repeat' split) <;> first | rfl | (exfalso; omega)
    · rw [zt_n c]; unfold yun at c; (repeat' split) <;> first | rfl | (exfalso; omega)
  · rw [st 8 0 (6) 1 _ (by decide) (by decide) rfl rfl, st 6 1 (2) 2 _ (by decide) (by decide) rfl rfl, st 2 2 (0) 3 _ (by decide) (by decide) rfl rfl, st 0 3 (-1) 4 _ (by decide) (by decide) rfl rfl, en 4 _ (by decide)]; by_cases c : yun 8 x
    · rw [zt_p c]; unfold yun at c; (repeat' split) <;> first | rfl | (exfalso; omega)
    · rw [zt_n c]; unfold yun at c; (repeat' split) <;> first | rfl | (exfalso; omega)
  · rw [st 9 0 (6) 1 _ (by decide) (by decide) rfl rfl, st 6 1 (2) 2 _ (by decide) (by decide) rfl rfl, st 2 2 (0) 3 _ (by decide) (by decide) rfl rfl, st 0 3 (-1) 4 _ (by decide) (by decide) rfl rfl, en 4 _ (by decide)]; by_cases c : yun 9 x
    · rw [zt_p c]; unfold yun at c; (repeat' split) <;> first | rfl | (exfalso; omega)
    · rw [zt_n c]; unfold yun at c; (repeat' split) <;> first | rfl | (exfalso; omega)
  · rw [st 10 0 (6) 1 _ (by decide) (by decide) rfl rfl, st 6 1 (2) 2 _ (by decide) (by decide) rfl rfl, st 2 2 (0) 3 _ (by decide) (by decide) rfl rfl, st 0 3 (-1) 4 _ (by decide) (by decide) rfl rfl, en 4 _ (by decide)]; by_cases c : yun 10 x
    · rw [zt_p c]; unfold yun at c; (repeat' split) <;> first | rfl | (exfalso; omega)
    · rw [zt_n c]; unfold yun at c; (repeat' split) <;> first | rfl | (exfalso; omega)
  · rw [st 11 0 (6) 1 _ (by decide) (by decide) rfl rfl, st 6 1 (2) 2 _ (by decide) (by decide) rfl rfl, st 2 2 (0) 3 _ (by decide) (by decide) rfl rfl, st 0 3 (-1) 4 _ (by decide) (by decide) rfl rfl, en 4 _ (by decide)]; by_cases c : yun 11 x
    · rw [zt_p c]; unfold yun at c; (repeat' split) <;> first | rfl | (exfalso; omega)
    · rw [zt_n c]; unfold yun at c; (repeat' split) <;> first | rfl | (exfalso; omega)
  · rw [st 12 0 (7) 1 _ (by decide) (by decide) rfl rfl, st 7 1 (2) 2 _ (by decide) (by decide) rfl rfl, st 2 2 (0) 3 _ (by decide) (by decide) rfl rfl, st 0 3 (-1) 4 _ (by decide) (by decide) rfl rfl, en 4 _ (by decide)]; by_cases c : yun 12 x
    · rw [zt_p c]; unfold yun at c; (repeat' split) <;> first | rfl | (exfalso; omega)
    · rw [zt_n c]; unfold yun at c; (repeat' split) <;> first | rfl | (exfalso; omega)
  · rw [st 13 0 (7) 1 _ (by decide) (by decide) rfl rfl, st 7 1 (2) 2 _ (by decide) (by decide) rfl rfl, st 2 2 (0) 3 _ (by decide) (by decide) rfl rfl, st 0 3 (-1) 4 _ (by decide) (by decide) rfl rfl, en 4 _ (by decide)]; by_cases c : yun 13 x
    · rw [zt_p c]; unfold yun at c; (repeat' split) <;> first | rfl | (exfalso; omega)
    · rw [zt_n c]; unfold yun at c; (repeat' split) <;> first | rfl | (exfalso; omega)
  · rw [st 14 0 (7) 1 _ (by decide) (by decide) rfl rfl, st 7 1 (2) 2 _ (by decide) (by decide) rfl rfl, st 2 2 (0) 3 _ (by decide) (by decide) rfl rfl, st 0 3 (-1) 4 _ (by decide) (by decide) rfl rfl, en 4 _ (by decide)]; by_cases c : yun 14 x
    · rw [zt_p c]; unfold yun at c; (repeat' split) <;> first | rfl | (exfalso; omega)
    · rw [zt_n c]; unfold yun at c; (repeat' split) <;> first | rfl | (exfalso; omega)
  · rw [st 15 0 (7) 1 _ (by decide) (by decide) rfl rfl, st 7 1 (2) 2 _ (by decide) (by decide) rfl rfl, st 2 2 (0) 3 _ (by decide) (by decide) rfl rfl, st 0 3 (-1) 4 _ (by decide) (by decide) rfl rfl, en 4 _ (by decide)]; by_cases c : yun 15 x
    · rw [zt_p c]; unfold yun at c; (repeat' split) <;> first | rfl | (exfalso; omega)
    · rw [zt_n c]; unfold yun at c; (repeat' split) <;> first | rfl | (exfalso; omega)
  · rw [st 16 0 (7) 1 _ (by decide) (by decide) rfl rfl, st 7 1 (2) 2 _ (by decide) (by decide) rfl rfl, st 2 2 (0) 3 _ (by decide) (by decide) rfl rfl, st 0 3 (-1) 4 _ (by decide) (by decide) rfl rfl, en 4 _ (by decide)]; by_cases c : yun 16 x
    · rw [zt_p c]; unfold yun at c; (repeat' split) <;> first | rfl | (exfalso; omega)
    · rw [zt_n c]; unfold yun at c; (repeat' split) <;> first | rfl | (exfalso; omega)
  · rw [st 17 0 (16) 1 _ (by decide) (by decide) rfl rfl, st 16 1 (7) 2 _ (by decide) (by decide) rfl rfl, st 7 2 (2) 3 _ (by decide) (by decide) rfl rfl, st 2 3 (0) 4 _ (by decide) (by decide) rfl rfl, st 0 4 (-1) 5 _ (by decide) (by decide) rfl rfl, en 5 _ (by decide)]; by_cases c : yun 17 x
    · rw [zt_p c]; unfold yun at c; (repeat' split) <;> first | rfl | (exfalso; omega)
    · rw [zt_n c]; unfold yun at c; (repeat' split) <;> first | rfl | (exfalso; omega)
theorem s_315 (w : zW) {d : Nat} (hd : 1 ≤ d) {k x : Int} (hk : (3 ≤ k ∧ k ≤ 5) ∨ (8 ≤ k ∧ k ≤ 17)) (hx : 0 ≤ x ∧ x ≤ 17) (σ : zMem) : zcall w d 315 [zI k, zI x] σ = some (zt (yun k x), σ) := by
  obtain ⟨d, rfl⟩ : ∃ e, d = e + 1 := ⟨d - 1, by omega⟩
  rw [eX12_isUnder]
  simp only [s_213, Option.bind_some, zt_if]
  have : x = 0 ∨ x = 1 ∨ x = 2 ∨ x = 3 ∨ x = 4 ∨ x = 5 ∨ x = 6 ∨ x = 7 ∨ x = 8 ∨ x = 9 ∨ x = 10 ∨ x = 11 ∨ x = 12 ∨ x = 13 ∨ x = 14 ∨ x = 15 ∨ x = 16 ∨ x = 17 := by omega
  by_cases c : yun k x
  · rw [zt_p c]; unfold yun at c; rcases this with rfl | rfl | rfl | rfl | rfl | rfl | rfl | rfl | rfl | rfl | rfl | rfl | rfl | rfl | rfl | rfl | rfl | rfl <;> simp only [reduceIte, Int.reduceEq] <;> (repeat' split) <;> first | rfl | (exfalso; omega)
  · rw [zt_n c]; unfold yun at c; rcases this with rfl | rfl | rfl | rfl | rfl | rfl | rfl | rfl | rfl | rfl | rfl | rfl | rfl | rfl | rfl | rfl | rfl | rfl <;> simp only [reduceIte, Int.reduceEq] <;> (repeat' split) <;> first | rfl | (exfalso; omega)
theorem s_118g (w : zW) (d : Nat) {σ : zMem} {s k : Int} (h : 0 ≤ s ∧ s < 24) (h0 : 0 ≤ k ∧ k < 6) : zcall w d 118 [zA 10 8 2, zI s, zI k] σ = some (σ 9 (6 * s + k), σ) := by
  rw [eX9_numberOf, if_neg (by omega), if_pos (by omega), if_neg (by omega), if_pos (by omega), za_2, zw32_i (by omega), za_0, zw32_i (by omega), if_pos (by omega), Int.mul_comm s 6]
  rfl
theorem yct_x (f g : Int → Bool) : ∀ n : Nat, (yct (fun p => f p != g p) n : Int) = yct f n + yct g n - 2 * yct (fun p => f p && g p) n := by
  intro n
  induction n with
  | zero => rfl
  | succ n ih =>
    rw [yct_s, yct_s, yct_s, yct_s]
    cases f n <;> cases g n <;> simp <;> omega
theorem l_316 (w : zW) {d : Nat} {h : Int} (hh : 0 ≤ h ∧ h < 24) {σ : zMem} {a0 a1 a2 a3 a4 a5 : Int} (e0 : σ 210 (11 * h + 5 + 0) = a0) (e1 : σ 210 (11 * h + 5 + 1) = a1) (e2 : σ 210 (11 * h + 5 + 2) = a2) (e3 : σ 210 (11 * h + 5 + 3) = a3) (e4 : σ 210 (11 * h + 5 + 4) = a4) (e5 : σ 210 (11 * h + 5 + 5) = a5)
    (b0 : a0 ≤ a3) (b1 : a1 ≤ a4) (b2 : a2 ≤ a5) (c0 : -40 ≤ a0) (c1 : -40 ≤ a1) (c2 : -40 ≤ a2) (d0 : a3 ≤ 55) (d1 : a4 ≤ 55) (d2 : a5 ≤ 55) :
    (∀ p : Int, zar 2 (zar 2 (zar 0 (zar 1 a3 a0) 1) (zar 0 (zar 1 a4 a1) 1)) (zar 0 (zar 1 a5 a2) 1) = (a3 - a0 + 1) * (a4 - a1 + 1) * (a5 - a2 + 1)) ∧ zcall w (d + 1) 316 [zA 13 32 209, zI h] σ = some ((a3 - a0 + 1) * (a4 - a1 + 1) * (a5 - a2 + 1), σ) := by
  have m1 := ymul_b (x := 96) (y := 96) (show -96 ≤ a3 - a0 + 1 ∧ a3 - a0 + 1 ≤ 96 by omega) (show 0 ≤ a4 - a1 + 1 ∧ a4 - a1 + 1 ≤ 96 by omega)
  have m2 := ymul_b (x := 9216) (y := 96) (show -9216 ≤ (a3 - a0 + 1) * (a4 - a1 + 1) ∧ (a3 - a0 + 1) * (a4 - a1 + 1) ≤ 9216 by omega) (show 0 ≤ a5 - a2 + 1 ∧ a5 - a2 + 1 ≤ 96 by omega)
  have st : ∀ x y : Int, -40 ≤ y → y ≤ x → x ≤ 55 → zar 0 (zar 1 x y) 1 = x - y + 1 := fun x y a b c => by rw [za_1, zw32_i (by omega), za_0, zw32_i (by omega)]
  have n1 : zar 2 1 (a3 - a0 + 1) = a3 - a0 + 1 := by rw [za_2, Int.one_mul, zw32_i (by omega)]
  have n2 : zar 2 (a3 - a0 + 1) (a4 - a1 + 1) = (a3 - a0 + 1) * (a4 - a1 + 1) := by rw [za_2, zw32_i (by omega)]
  have n3 : zar 2 ((a3 - a0 + 1) * (a4 - a1 + 1)) (a5 - a2 + 1) = (a3 - a0 + 1) * (a4 - a1 + 1) * (a5 - a2 + 1) := by rw [za_2, zw32_i (by omega)]
  have z : ∀ i : Int, 0 ≤ i → i < 3 → zar 0 3 i = 3 + i ∧ zar 0 i 1 = i + 1 := fun i a b => ⟨by rw [za_0, zw32_i (by omega)], by rw [za_0, zw32_i (by omega)]⟩
  have rd := fun (j : Int) (g : 0 ≤ j ∧ j < 6) => s_217 w d hh g σ
  refine ⟨fun _ => by rw [st a3 a0 c0 b0 d0, st a4 a1 c1 b1 d1, st a5 a2 c2 b2 d2, n2, n3], ?_⟩
  rw [eX12_wholePlaces, hX12_wholePlaces_4, if_pos (by decide), (z 0 (by decide) (by decide)).1, (z 0 (by decide) (by decide)).2, rd (3 + 0) (by decide), Option.bind_some]
  dsimp only
  rw [rd 0 (by decide), Option.bind_some]
  dsimp only
  rw [show (3 : Int) + 0 = 3 from rfl, e0, e3, st a3 a0 c0 b0 d0, n1, hX12_wholePlaces_4, if_pos (by decide), (z (0 + 1) (by decide) (by decide)).1, (z (0 + 1) (by decide) (by decide)).2, rd (3 + (0 + 1)) (by decide), Option.bind_some]
  dsimp only
  rw [rd (0 + 1) (by decide), Option.bind_some]
  dsimp only
  rw [show (3 : Int) + (0 + 1) = 4 from rfl, show (0 : Int) + 1 = 1 from rfl, e1, e4, st a4 a1 c1 b1 d1, n2, hX12_wholePlaces_4, if_pos (by decide), (z (1 + 1) (by decide) (by decide)).1, (z (1 + 1) (by decide) (by decide)).2, rd (3 + (1 + 1)) (by decide), Option.bind_some]
  dsimp only
  rw [rd (1 + 1) (by decide), Option.bind_some]
  dsimp only
  rw [show (3 : Int) + (1 + 1) = 5 from rfl, show (1 : Int) + 1 = 2 from rfl, e2, e5, st a5 a2 c2 b2 d2, n3, hX12_wholePlaces_4, if_neg (by decide)]
theorem s_145 (w : zW) {σ : zMem} (hI : zInv σ) (x1 x2 : Int) :
    zcall w 998 145 [zA 12 16 1, zI x1, zI x2] σ = some (if ¬ ((0 ≤ x1 ∧ x1 < 8) ∧ 0 ≤ x2 ∧ x2 ≤ 17) then -62 else if σ 226 x1 = -1 then -64 else if σ 226 x1 < 10 ∨ ¬ yun (σ 210 (11 * (σ 226 x1 - 10))) x2 then -63 else 0, σ) := by
  rw [eX11_saysRefusal, s_201, Option.bind_some]
  dsimp only
  rw [zt_if]
  by_cases h1 : 0 ≤ x1 ∧ x1 < 8
  · rw [if_pos h1, s_200, Option.bind_some]
    dsimp only
    rw [zt_if]
    by_cases h2 : 0 ≤ x2 ∧ x2 ≤ 17
    · have hs := hI.2.2.2.2.2.1 x1 h1.1 h1.2
      have c7 : σ 2 7 = σ 209 1 := hI.2.1.2.1
      have hn := hI.2.1.1.2.1
      rw [if_pos h2, s_81 w (by decide), if_pos h1, Option.bind_some]
      dsimp only
      rw [hs.1, if_neg (show ¬ ¬ ((0 ≤ x1 ∧ x1 < 8) ∧ 0 ≤ x2 ∧ x2 ≤ 17) from fun u => u ⟨h1, h2⟩)]
      generalize σ 226 x1 = v at *
      by_cases c : v = -1
      · rw [if_pos c, if_pos c]
      · have e1 : zar 1 v 10 = v - 10 := by rw [za_1, zw32_i (by omega)]
        rw [if_neg c, if_neg c, e1, s_197 w (by decide), Option.bind_some]
        dsimp only
        rw [zt_if, c7]
        by_cases c2 : v < 10
        · rw [if_neg (by omega), if_pos (Or.inl c2)]
        · have hk := (hI.2.1.1.2.2 (v - 10) (by omega) (by omega)).1
          rw [if_pos (by omega), s_112 w 997 (yTs_i hI.2.1.2 hn (s := v - 10) (by omega) (by omega)), Option.bind_some]
          dsimp only
          rw [s_26 w 997 (by omega) h2, Option.bind_some]
          dsimp only
          rw [zt_if]
          by_cases c3 : yun (σ 210 (11 * (v - 10))) x2
          · rw [if_pos c3, if_neg (fun u => u.elim c2 (fun q => q c3))]
          · rw [if_neg c3, if_pos (Or.inr c3)]
    · rw [if_neg h2, if_pos (fun u => h2 u.2)]
  · rw [if_neg h1, if_pos (fun u => h1 u.1)]
theorem l_317 (w : zW) {σ : zMem} (hI : zInv σ) (x1 x2 : Int) (σ' : zMem) (n1 : σ' 209 1 = σ 209 1) (T1 : σ' 210 = σ 210) (f : ∀ k, σ' 226 k = σ 226 k) :
    zcall w 999 317 [zA 13 32 209, zI x1, zI x2] σ' = if ¬ ((0 ≤ x1 ∧ x1 < 8) ∧ 0 ≤ x2 ∧ x2 ≤ 17) then (zcall w 998 214 [zA 13 32 209, zI (-62)] σ').bind (fun r => some (r.1, r.2)) else if σ 226 x1 = -1 then (zcall w 998 214 [zA 13 32 209, zI (-64)] σ').bind (fun r => some (r.1, r.2)) else if σ 226 x1 < 10 ∨ ¬ yun (σ 210 (11 * (σ 226 x1 - 10))) x2 then (zcall w 998 214 [zA 13 32 209, zI (-63)] σ').bind (fun r => some (r.1, r.2)) else (zcall w 998 318 [zA 13 32 209, zI (σ 226 x1 - 10), zI x2] σ').bind fun r10 => some (r10.1, r10.2) := by
  rw [eX12_says, s_307 w (by decide), Option.bind_some]
  dsimp only
  rw [zt_if]
  by_cases h1 : 0 ≤ x1 ∧ x1 < 8
  · rw [if_pos h1, s_213, Option.bind_some]
    dsimp only
    rw [zt_if]
    by_cases h2 : 0 ≤ x2 ∧ x2 ≤ 17
    · have hs := hI.2.2.2.2.2.1 x1 h1.1 h1.2
      have hn := hI.2.1.1.2.1
      rw [if_pos h2, if_pos h1, s_213, Option.bind_some]
      dsimp only
      rw [zt_if, if_neg (show ¬ ¬ ((0 ≤ x1 ∧ x1 < 8) ∧ 0 ≤ x2 ∧ x2 ≤ 17) from fun u => u ⟨h1, h2⟩)]
      simp only [f]
      generalize σ 226 x1 = v at *
      by_cases c : 0 ≤ v ∧ v ≤ 4
      · rw [if_pos c, if_neg (show ¬ v = -1 by omega), if_pos (show v < 10 ∨ _ from Or.inl (by omega))]
      · rw [if_neg c, if_pos h1]
        by_cases c2 : v = -1
        · rw [if_pos (show v < 0 by omega), if_pos c2]
        · have hk := (hI.2.1.1.2.2 (v - 10) (by omega) (by omega)).1
          have e1 : zar 1 v 10 = v - 10 := by rw [za_1, zw32_i (by omega)]
          rw [if_neg (show ¬ v < 0 by omega), if_neg c2, if_pos h1, e1, s_216 w 998 (show 0 ≤ v - 10 ∧ v - 10 < 24 by omega) (by decide), Option.bind_some]
          dsimp only
          rw [T1, Int.add_zero, s_315 w (by decide) (by omega) h2, Option.bind_some]
          dsimp only
          rw [zt_if]
          by_cases c3 : yun (σ 210 (11 * (v - 10))) x2
          · rw [if_pos c3, if_neg (show ¬ (v < 10 ∨ _) from fun u => u.elim (by omega) (fun q => q c3))]
          · rw [if_neg c3, if_pos (show v < 10 ∨ _ from Or.inr c3)]
    · rw [if_neg h2, if_pos (fun u => h2 u.2)]
  · rw [if_neg h1, if_pos (fun u => h1 u.1)]
theorem op_6 (w : zW) (x1 x2 : Int) : zOp zInv w 144 317 [zI x1, zI x2] := by
  intro σ hI
  have e145 := s_145 w hI x1 x2
  have hB := l_317 w hI x1 x2
  have hA := eX11_says w 998 x1 x2 σ
  have ref : ∀ n : Int, -66 ≤ n ∧ n ≤ -62 → zcall w 999 144 [zA 12 16 1, zI x1, zI x2] σ = (zcall w 998 194 [zA 12 16 1, zI n] σ).bind (fun r => some (r.1, r.2)) → zcall w 999 317 [zA 13 32 209, zI x1, zI x2] (zrA σ n) = (zcall w 998 214 [zA 13 32 209, zI n] (zrA σ n)).bind (fun r => some (r.1, r.2)) → _ := fun n hn e1 e2 => yop (w := w) (y1 := 144) (y2 := 317) (as := [zI x1, zI x2]) (σ := σ) n (zrA σ n) (zrB (zrA σ n) n) (e1.trans (by rw [s_194 w 998 hn]; rfl)) (e2.trans (by rw [s_214 w 998 hn]; rfl)) (zref0 hI)
  have bz : ∀ n : Int, zcall w 999 317 [zA 13 32 209, zI x1, zI x2] (zrA σ n) = _ := fun n => hB (zrA σ n) (zup_f (by omega)) (funext fun k => zup_f (by omega)) (fun k => zup_f (by omega))
  by_cases h : (0 ≤ x1 ∧ x1 < 8) ∧ 0 ≤ x2 ∧ x2 ≤ 17
  · by_cases c1 : σ 226 x1 = -1
    · rw [if_neg (fun u => u h), if_pos c1] at e145
      rw [e145, Option.bind_some] at hA
      exact ref (-64) (by decide) hA (by rw [bz, if_neg (fun u => u h), if_pos c1])
    · by_cases c2 : σ 226 x1 < 10 ∨ ¬ yun (σ 210 (11 * (σ 226 x1 - 10))) x2
      · rw [if_neg (fun u => u h), if_neg c1, if_pos c2] at e145
        rw [e145, Option.bind_some] at hA
        exact ref (-63) (by decide) hA (by rw [bz, if_neg (fun u => u h), if_neg c1, if_pos c2])
      · rw [if_neg (fun u => u h), if_neg c1, if_neg c2] at e145
        have hB2 : ∀ σ' : zMem, σ' 209 1 = σ 209 1 → σ' 210 = σ 210 → (∀ k, σ' 226 k = σ 226 k) → zcall w 999 317 [zA 13 32 209, zI x1, zI x2] σ' = (zcall w 998 318 [zA 13 32 209, zI (σ 226 x1 - 10), zI x2] σ').bind fun r10 => some (r10.1, r10.2) := by
          intro σ' a b c
          rw [hB σ' a b c, if_neg (fun u => u h), if_neg c1, if_neg c2]
        clear hB ref bz
        have hy : yun (σ 210 (11 * (σ 226 x1 - 10))) x2 := Decidable.byContradiction fun u => c2 (Or.inr u)
        have hs := hI.2.2.2.2.2.1 x1 h.1.1 h.1.2
        have hT := hI.2.1.1
        have hTb := hI.2.1.2
        have h24 := hT.2.1
        have e1 : zar 1 (σ 226 x1) 10 = σ 226 x1 - 10 := by rw [za_1, zw32_i (by omega)]
        have hH : 0 ≤ σ 226 x1 - 10 ∧ σ 226 x1 - 10 < σ 209 1 := by omega
        rw [e145, Option.bind_some] at hA
        dsimp only at hA
        rw [if_pos rfl, s_81 w (by decide), if_pos h.1, Option.bind_some] at hA
        dsimp only at hA
        rw [hs.1, e1] at hA
        clear hs e145 e1 c2
        generalize σ 226 x1 - 10 = H at *
        have ts := yTs_i hTb h24 (s := H) hH.1 hH.2
        rw [s_113 w 998 ts, Option.bind_some] at hA
        dsimp only at hA
        rw [s_114 w 998 ts, Option.bind_some] at hA
        dsimp only at hA
        have hW := hT.2.2 H hH.1 hH.2
        have hN := hW.2.2.2.2.2
        have hW := hW.1
        have hh : 0 ≤ H ∧ H < 24 := by omega
        have rn := fun (j : Int) (g : 0 ≤ j ∧ j < 6) => s_217 w 997 hh g σ
        have cn := fun (j : Int) (g : 0 ≤ j ∧ j < 6) => s_118g w 997 (σ := σ) hh g
        have en := ts.2.2.2.2
        have : x2 = 0 ∨ x2 = 1 ∨ x2 = 2 ∨ x2 = 3 ∨ x2 = 4 ∨ x2 = 5 ∨ x2 = 6 ∨ x2 = 7 ∨ x2 = 8 ∨ x2 = 9 ∨ x2 = 10 ∨ x2 = 11 ∨ x2 = 12 ∨ x2 = 13 ∨ x2 = 14 ∨ x2 = 15 ∨ x2 = 16 ∨ x2 = 17 := by omega
        rcases this with rfl | rfl | rfl | rfl | rfl | rfl | rfl | rfl | rfl | rfl | rfl | rfl | rfl | rfl | rfl | rfl | rfl | rfl
        · simp only [reduceIte, Int.reduceEq] at hA
          have hS : ∀ σ' : zMem, σ' 210 = σ 210 → zcall w 998 318 [zA 13 32 209, zI H, zI 0] σ' = zden w 998 318 12 [zA 13 32 209, zI H, zI 0, zI (σ 210 (11 * H + 1)), zI (σ 210 (11 * H + 2))] [] σ' := by
            intro σ' b
            rw [eX12_saysOf, s_216 w 997 hh (show (0 : Int) ≤ 1 ∧ (1 : Int) < 11 by decide), Option.bind_some]
            dsimp only
            rw [s_216 w 997 hh (show (0 : Int) ≤ 2 ∧ (2 : Int) < 11 by decide), Option.bind_some, b]
            simp only [reduceIte, Int.reduceEq]
          refine yop (σ 210 (11 * H + 3)) σ σ (hA.trans ?_) ((hB2 σ rfl rfl (fun _ => rfl)).trans ?_) hI
          · rw [hX11_says_30, (s_115 w 998 hT hTb (Or.inr hH)).1, if_neg (by omega)]; rfl
          · rw [hS σ rfl, hX12_saysOf_12, s_216 w 997 hh (show (0 : Int) ≤ 3 ∧ (3 : Int) < 11 by decide)]; rfl
        · simp only [reduceIte, Int.reduceEq] at hA
          have hS : ∀ σ' : zMem, σ' 210 = σ 210 → zcall w 998 318 [zA 13 32 209, zI H, zI 1] σ' = zden w 998 318 17 [zA 13 32 209, zI H, zI 1, zI (σ 210 (11 * H + 1)), zI (σ 210 (11 * H + 2))] [] σ' := by
            intro σ' b
            rw [eX12_saysOf, s_216 w 997 hh (show (0 : Int) ≤ 1 ∧ (1 : Int) < 11 by decide), Option.bind_some]
            dsimp only
            rw [s_216 w 997 hh (show (0 : Int) ≤ 2 ∧ (2 : Int) < 11 by decide), Option.bind_some, b]
            simp only [reduceIte, Int.reduceEq]
          have r1 := (yr_86 w (s := H) hh).2
          obtain ⟨σ1, m, P, I1, E, n1, f1⟩ := s_198 w (d := 998) (by decide) hI hH.1 hH.2
          have ec := yct_c (n := 4096) (f := zbit σ1 (122 + 2 * H)) (g := zns (σ 210) H) (fun p a b => P p a b)
          have e2 := s_249 w (d := 997) (by decide) (σ := σ1) (s := H) (o := 0) (by decide) I1.2.1.1 hH.1 (by omega)
          rw [E] at e2
          refine yps w (((yct (zns (σ 210) H) 4096 : Nat) : Int)) (σ2 := yfm (215 + 0) (fun k => zt (zns (σ 210) H k = true)) 0 4096 σ1) I1 (hA.trans ?_) ((hB2 σ1 n1 E (fun k => f1 _ _ (by omega) (by omega) (by omega))).trans ?_) (yfm_alk (o := 215 + 0) (by decide))
          · rw [hX11_says_35, m, Option.bind_some]
            dsimp only
            rw [s_57 w (by decide), r1, ec]; rfl
          · rw [hS σ1 E, hX12_saysOf_17, e2]; rfl
        · simp only [reduceIte, Int.reduceEq] at hA
          have hS : ∀ σ' : zMem, σ' 210 = σ 210 → zcall w 998 318 [zA 13 32 209, zI H, zI 2] σ' = zden w 998 318 22 [zA 13 32 209, zI H, zI 2, zI (σ 210 (11 * H + 1)), zI (σ 210 (11 * H + 2))] [] σ' := by
            intro σ' b
            rw [eX12_saysOf, s_216 w 997 hh (show (0 : Int) ≤ 1 ∧ (1 : Int) < 11 by decide), Option.bind_some]
            dsimp only
            rw [s_216 w 997 hh (show (0 : Int) ≤ 2 ∧ (2 : Int) < 11 by decide), Option.bind_some, b]
            simp only [reduceIte, Int.reduceEq]
          refine yop (σ 210 (11 * H + 1)) σ σ (hA.trans ?_) ((hB2 σ rfl rfl (fun _ => rfl)).trans ?_) hI
          · rw [hX11_says_40]
          · rw [hS σ rfl, hX12_saysOf_22]; rfl
        · simp only [reduceIte, Int.reduceEq] at hA
          have hS : ∀ σ' : zMem, σ' 210 = σ 210 → zcall w 998 318 [zA 13 32 209, zI H, zI 3] σ' = zden w 998 318 24 [zA 13 32 209, zI H, zI 3, zI (σ 210 (11 * H + 1)), zI (σ 210 (11 * H + 2))] [] σ' := by
            intro σ' b
            rw [eX12_saysOf, s_216 w 997 hh (show (0 : Int) ≤ 1 ∧ (1 : Int) < 11 by decide), Option.bind_some]
            dsimp only
            rw [s_216 w 997 hh (show (0 : Int) ≤ 2 ∧ (2 : Int) < 11 by decide), Option.bind_some, b]
            simp only [reduceIte, Int.reduceEq]
          have ek : σ 210 (11 * H) = 3 := by unfold yun at hy; omega
          have e3 := en 3 (by decide) (by rw [ek]; decide)
          refine yop ((σ 210 (11 * H + 5 + 3))) σ σ (hA.trans ?_) ((hB2 σ rfl rfl (fun _ => rfl)).trans ?_) hI
          · rw [hX11_says_70, eX11_saidOfNumbers, cn 0 (by decide), Option.bind_some]
            dsimp only
            rw [cn 1 (by decide), Option.bind_some]
            dsimp only
            rw [cn 2 (by decide), Option.bind_some]
            dsimp only
            rw [cn 3 (by decide), Option.bind_some]
            dsimp only
            simp only [reduceIte, Int.reduceEq]
            rw [hX11_saidOfNumbers_52, e3]; rfl
          · rw [hS σ rfl, hX12_saysOf_24]
            rw [rn 3 (by decide), Option.bind_some]
            dsimp only
            rfl
        · simp only [reduceIte, Int.reduceEq] at hA
          have hS : ∀ σ' : zMem, σ' 210 = σ 210 → zcall w 998 318 [zA 13 32 209, zI H, zI 4] σ' = zden w 998 318 29 [zA 13 32 209, zI H, zI 4, zI (σ 210 (11 * H + 1)), zI (σ 210 (11 * H + 2))] [] σ' := by
            intro σ' b
            rw [eX12_saysOf, s_216 w 997 hh (show (0 : Int) ≤ 1 ∧ (1 : Int) < 11 by decide), Option.bind_some]
            dsimp only
            rw [s_216 w 997 hh (show (0 : Int) ≤ 2 ∧ (2 : Int) < 11 by decide), Option.bind_some, b]
            simp only [reduceIte, Int.reduceEq]
          have ek : σ 210 (11 * H) = 4 := by unfold yun at hy; omega
          rw [ek] at hN
          have v := yV4 hN
          obtain ⟨w1, w2⟩ := l_316 w (d := 996) hh (σ := σ) rfl rfl rfl rfl rfl rfl v.2.2.2.1.1 v.2.2.2.2.1.1 v.2.2.2.2.2.1 v.1.1 v.2.1.1 v.2.2.1.1 v.2.2.2.1.2 v.2.2.2.2.1.2 v.2.2.2.2.2.2
          have e0 := en 0 (by decide) (by rw [ek]; decide)
          have e1 := en 1 (by decide) (by rw [ek]; decide)
          have e2 := en 2 (by decide) (by rw [ek]; decide)
          have e3 := en 3 (by decide) (by rw [ek]; decide)
          have e4 := en 4 (by decide) (by rw [ek]; decide)
          have e5 := en 5 (by decide) (by rw [ek]; decide)
          refine yop ((σ 210 (11 * H + 5 + 3) - σ 210 (11 * H + 5 + 0) + 1) * (σ 210 (11 * H + 5 + 4) - σ 210 (11 * H + 5 + 1) + 1) * (σ 210 (11 * H + 5 + 5) - σ 210 (11 * H + 5 + 2) + 1)) σ σ (hA.trans ?_) ((hB2 σ rfl rfl (fun _ => rfl)).trans ?_) hI
          · rw [hX11_says_70, eX11_saidOfNumbers, cn 0 (by decide), Option.bind_some]
            dsimp only
            rw [cn 1 (by decide), Option.bind_some]
            dsimp only
            rw [cn 2 (by decide), Option.bind_some]
            dsimp only
            rw [cn 3 (by decide), Option.bind_some]
            dsimp only
            simp only [reduceIte, Int.reduceEq]
            rw [hX11_saidOfNumbers_26, cn 4 (by decide), Option.bind_some]
            dsimp only
            rw [cn 5 (by decide), Option.bind_some]
            dsimp only
            rw [e0, e1, e2, e3, e4, e5, w1 0]; rfl
          · rw [hS σ rfl, hX12_saysOf_29, w2]; rfl
        · simp only [reduceIte, Int.reduceEq] at hA
          have hS : ∀ σ' : zMem, σ' 210 = σ 210 → zcall w 998 318 [zA 13 32 209, zI H, zI 5] σ' = zden w 998 318 24 [zA 13 32 209, zI H, zI 5, zI (σ 210 (11 * H + 1)), zI (σ 210 (11 * H + 2))] [] σ' := by
            intro σ' b
            rw [eX12_saysOf, s_216 w 997 hh (show (0 : Int) ≤ 1 ∧ (1 : Int) < 11 by decide), Option.bind_some]
            dsimp only
            rw [s_216 w 997 hh (show (0 : Int) ≤ 2 ∧ (2 : Int) < 11 by decide), Option.bind_some, b]
            simp only [reduceIte, Int.reduceEq]
          have ek : σ 210 (11 * H) = 5 := by unfold yun at hy; omega
          have e3 := en 3 (by decide) (by rw [ek]; decide)
          refine yop ((σ 210 (11 * H + 5 + 3))) σ σ (hA.trans ?_) ((hB2 σ rfl rfl (fun _ => rfl)).trans ?_) hI
          · rw [hX11_says_70, eX11_saidOfNumbers, cn 0 (by decide), Option.bind_some]
            dsimp only
            rw [cn 1 (by decide), Option.bind_some]
            dsimp only
            rw [cn 2 (by decide), Option.bind_some]
            dsimp only
            rw [cn 3 (by decide), Option.bind_some]
            dsimp only
            simp only [reduceIte, Int.reduceEq]
            rw [hX11_saidOfNumbers_52, e3]; rfl
          · rw [hS σ rfl, hX12_saysOf_24]
            rw [rn 3 (by decide), Option.bind_some]
            dsimp only
            rfl
        · simp only [reduceIte, Int.reduceEq] at hA
          have hS : ∀ σ' : zMem, σ' 210 = σ 210 → zcall w 998 318 [zA 13 32 209, zI H, zI 6] σ' = zden w 998 318 33 [zA 13 32 209, zI H, zI 6, zI (σ 210 (11 * H + 1)), zI (σ 210 (11 * H + 2))] [] σ' := by
            intro σ' b
            rw [eX12_saysOf, s_216 w 997 hh (show (0 : Int) ≤ 1 ∧ (1 : Int) < 11 by decide), Option.bind_some]
            dsimp only
            rw [s_216 w 997 hh (show (0 : Int) ≤ 2 ∧ (2 : Int) < 11 by decide), Option.bind_some, b]
            simp only [reduceIte, Int.reduceEq]
          refine yop (σ 210 (11 * H + 2)) σ σ (hA.trans ?_) ((hB2 σ rfl rfl (fun _ => rfl)).trans ?_) hI
          · rw [hX11_says_42]
          · rw [hS σ rfl, hX12_saysOf_33]; rfl
        · simp only [reduceIte, Int.reduceEq] at hA
          have hS : ∀ σ' : zMem, σ' 210 = σ 210 → zcall w 998 318 [zA 13 32 209, zI H, zI 7] σ' = zden w 998 318 35 [zA 13 32 209, zI H, zI 7, zI (σ 210 (11 * H + 1)), zI (σ 210 (11 * H + 2))] [] σ' := by
            intro σ' b
            rw [eX12_saysOf, s_216 w 997 hh (show (0 : Int) ≤ 1 ∧ (1 : Int) < 11 by decide), Option.bind_some]
            dsimp only
            rw [s_216 w 997 hh (show (0 : Int) ≤ 2 ∧ (2 : Int) < 11 by decide), Option.bind_some, b]
            simp only [reduceIte, Int.reduceEq]
          have hp : 0 ≤ σ 210 (11 * H + 1) ∧ σ 210 (11 * H + 1) < σ 209 1 := by unfold yun at hy; omega
          generalize σ 210 (11 * H + 1) = p at *
          have r1 := (yr_86 w (s := H) hh).2
          have r2 := (yr_86 w (s := p) (by omega)).2
          obtain ⟨σ1, m, P, I1, E, n1, f1⟩ := s_198 w (d := 998) (by decide) hI hH.1 hH.2
          obtain ⟨σ2, m2, P2, I2, E2, n2, f2⟩ := s_198 w (d := 998) (by decide) I1 hp.1 (by omega)
          rw [E] at P2
          have T2 := E2.trans E
          have ec := yct_c (n := 4096) (f := zbit σ1 (122 + 2 * H)) (g := zns (σ 210) H) (fun p a b => P p a b)
          have ec2 := yct_c (n := 4096) (f := zbit σ2 (122 + 2 * p)) (g := zns (σ 210) p) (fun p a b => P2 p a b)
          have e2 := s_249 w (d := 997) (by decide) (σ := σ2) (s := H) (o := 0) (by decide) I2.2.1.1 hH.1 (by omega)
          have E3 : yfm (215 + 0) (fun k => zt (zns (σ2 210) H k = true)) 0 4096 σ2 210 = σ2 210 := funext fun k => yfm_f (by omega)
          have e3 := s_249 w (d := 997) (by decide) (σ := yfm (215 + 0) (fun k => zt (zns (σ2 210) H k = true)) 0 4096 σ2) (s := p) (o := 0) (n := σ2 209 1) (by decide) (by rw [E3]; exact I2.2.1.1) hp.1 (by omega)
          rw [E3] at e3
          refine yps w (zar 1 ((yct (zns (σ 210) H) 4096 : Nat) : Int) ((yct (zns (σ 210) p) 4096 : Nat) : Int)) (σ2 := yfm (215 + 0) (fun k => zt (zns (σ2 210) p k = true)) 0 4096 (yfm (215 + 0) (fun k => zt (zns (σ2 210) H k = true)) 0 4096 σ2)) I2 (hA.trans ?_) ((hB2 σ2 (n2.trans n1) T2 (fun k => (f2 _ _ (by omega) (by omega) (by omega)).trans (f1 _ _ (by omega) (by omega) (by omega)))).trans ?_) (fun a k u => (yfm_alk (o := 215 + 0) (by decide) a k u).trans (yfm_alk (o := 215 + 0) (by decide) a k u))
          · rw [hX11_says_44, m, Option.bind_some]
            dsimp only
            rw [s_57 w (by decide), Option.bind_some, r1, ec]
            dsimp only
            rw [m2, Option.bind_some]
            dsimp only
            rw [s_57 w (by decide), Option.bind_some, r2, ec2]
          · rw [hS σ2 T2, hX12_saysOf_35, e2, Option.bind_some]
            dsimp only
            rw [e3, T2]; rfl
        · simp only [reduceIte, Int.reduceEq] at hA
          have hS : ∀ σ' : zMem, σ' 210 = σ 210 → zcall w 998 318 [zA 13 32 209, zI H, zI 8] σ' = zden w 998 318 45 [zA 13 32 209, zI H, zI 8, zI (σ 210 (11 * H + 1)), zI (σ 210 (11 * H + 2))] [] σ' := by
            intro σ' b
            rw [eX12_saysOf, s_216 w 997 hh (show (0 : Int) ≤ 1 ∧ (1 : Int) < 11 by decide), Option.bind_some]
            dsimp only
            rw [s_216 w 997 hh (show (0 : Int) ≤ 2 ∧ (2 : Int) < 11 by decide), Option.bind_some, b]
            simp only [reduceIte, Int.reduceEq]
          have hp : 0 ≤ σ 210 (11 * H + 1) ∧ σ 210 (11 * H + 1) < σ 209 1 := by unfold yun at hy; omega
          have hq : 0 ≤ σ 210 (11 * H + 2) ∧ σ 210 (11 * H + 2) < σ 209 1 := by unfold yun at hy; omega
          have hq0 := hq
          generalize σ 210 (11 * H + 1) = p at *
          generalize σ 210 (11 * H + 2) = q at *
          have r1 := (yr_86 w (s := p) (by omega)).2
          have r2 := (yr_86 w (s := q) (by omega)).2
          obtain ⟨σ1, m, P, I1, E1, n1, f1⟩ := s_198 w (d := 998) (by decide) hI hp.1 hp.2
          obtain ⟨σ2, m2, P2, I2, E2, n2, f2⟩ := s_198 w (d := 998) (by decide) I1 hq.1 (by omega)
          rw [E1] at P2
          have P1 : zPS σ2 (122 + 2 * p) (zns (σ 210) p) := by
            by_cases c : p = q
            · rw [c]; exact P2
            · exact zPS_fr (fun k => f2 _ _ (by omega) (by omega) (by omega)) P
          have T2 := E2.trans E1
          have hb := hB2 σ2 (n2.trans n1) T2 (fun k => (f2 _ _ (by omega) (by omega) (by omega)).trans (f1 _ _ (by omega) (by omega) (by omega)))
          have ec := yct_c (n := 4096) (f := fun k => zbit σ2 (122 + 2 * p) k != zbit σ2 (122 + 2 * q) k) (g := fun k => zns (σ 210) p k != zns (σ 210) q k) (fun k a b => by rw [P1 k a b, P2 k a b])
          have e3 := s_249 w (d := 997) (by decide) (σ := σ2) (s := p) (o := 2) (by decide) I2.2.1.1 hp.1 (by omega)
          generalize hσ3 : yfm (215 + 2) (fun k => zt (zns (σ2 210) p k = true)) 0 4096 σ2 = σ3 at *
          have g3 : ∀ a k, a ≠ 217 → σ3 a k = σ2 a k := fun a k h => by rw [← hσ3]; exact yfm_f (by omega)
          have T3 : σ3 210 = σ2 210 := funext fun k => g3 _ _ (by decide)
          have e4 := s_249 w (d := 997) (by decide) (σ := σ3) (s := q) (o := 3) (n := σ2 209 1) (by decide) (by rw [T3]; exact I2.2.1.1) hq.1 (by omega)
          rw [T3] at e4
          generalize hσ4 : yfm (215 + 3) (fun k => zt (zns (σ2 210) q k = true)) 0 4096 σ3 = σ4 at *
          have g4 : ∀ a k, a ≠ 218 → σ4 a k = σ3 a k := fun a k h => by rw [← hσ4]; exact yfm_f (by omega)
          have T4 : σ4 210 = σ2 210 := (funext fun k => g4 _ _ (by decide)).trans T3
          obtain ⟨σ5, e5, -, -, f5⟩ := s_264 w (d := 997) (by decide) (σ := σ4) (p := p) (q := q) (n := σ2 209 1) (by rw [T4]; exact I2.2.1.1) (by omega) (by omega)
          rw [T4, T2] at e5
          rw [T2] at e3 e4
          have yx := yct_x (zns (σ 210) p) (zns (σ 210) q) 4096
          have yl1 := yct_le (zns (σ 210) p) 4096
          have yl2 := yct_le (zns (σ 210) q) 4096
          have yl3 := yct_le (fun k => zns (σ 210) p k && zns (σ 210) q k) 4096
          refine yps w (((yct (fun k => zns (σ 210) p k != zns (σ 210) q k) 4096 : Nat) : Int)) (σ2 := σ5) I2 (hA.trans ?_) (hb.trans ?_) (zalk_s fun a k _ _ _ _ h => (f5 a k (by omega) (by omega)).trans ((g4 a k (by omega)).trans (g3 a k (by omega))))
          · rw [hX11_says_54, m, Option.bind_some]
            dsimp only
            rw [m2, Option.bind_some]
            dsimp only
            rw [s_59 w (by decide), r1, r2, ec]; rfl
          · rw [hS σ2 T2, hX12_saysOf_45, e3, Option.bind_some]
            dsimp only
            rw [e4, Option.bind_some]
            dsimp only
            rw [e5, Option.bind_some]
            dsimp only
            rw [za_2, zw32_i (by omega), za_0, zw32_i (by omega), za_1, zw32_i (by omega), ← yx]; rfl
        · simp only [reduceIte, Int.reduceEq] at hA
          have hS : ∀ σ' : zMem, σ' 210 = σ 210 → zcall w 998 318 [zA 13 32 209, zI H, zI 9] σ' = zden w 998 318 45 [zA 13 32 209, zI H, zI 9, zI (σ 210 (11 * H + 1)), zI (σ 210 (11 * H + 2))] [] σ' := by
            intro σ' b
            rw [eX12_saysOf, s_216 w 997 hh (show (0 : Int) ≤ 1 ∧ (1 : Int) < 11 by decide), Option.bind_some]
            dsimp only
            rw [s_216 w 997 hh (show (0 : Int) ≤ 2 ∧ (2 : Int) < 11 by decide), Option.bind_some, b]
            simp only [reduceIte, Int.reduceEq]
          have hp : 0 ≤ σ 210 (11 * H + 1) ∧ σ 210 (11 * H + 1) < σ 209 1 := by unfold yun at hy; omega
          have hq : 0 ≤ σ 210 (11 * H + 2) ∧ σ 210 (11 * H + 2) < σ 209 1 := by unfold yun at hy; omega
          have hq0 := hq
          generalize σ 210 (11 * H + 1) = p at *
          generalize σ 210 (11 * H + 2) = q at *
          have r1 := (yr_86 w (s := p) (by omega)).2
          have r2 := (yr_86 w (s := q) (by omega)).2
          obtain ⟨σ1, m, P, I1, E1, n1, f1⟩ := s_198 w (d := 998) (by decide) hI hp.1 hp.2
          obtain ⟨σ2, m2, P2, I2, E2, n2, f2⟩ := s_198 w (d := 998) (by decide) I1 hq.1 (by omega)
          rw [E1] at P2
          have P1 : zPS σ2 (122 + 2 * p) (zns (σ 210) p) := by
            by_cases c : p = q
            · rw [c]; exact P2
            · exact zPS_fr (fun k => f2 _ _ (by omega) (by omega) (by omega)) P
          have T2 := E2.trans E1
          have hb := hB2 σ2 (n2.trans n1) T2 (fun k => (f2 _ _ (by omega) (by omega) (by omega)).trans (f1 _ _ (by omega) (by omega) (by omega)))
          have ec := yct_c (n := 4096) (f := fun k => zbit σ2 (122 + 2 * p) k != zbit σ2 (122 + 2 * q) k) (g := fun k => zns (σ 210) p k != zns (σ 210) q k) (fun k a b => by rw [P1 k a b, P2 k a b])
          have e3 := s_249 w (d := 997) (by decide) (σ := σ2) (s := p) (o := 2) (by decide) I2.2.1.1 hp.1 (by omega)
          generalize hσ3 : yfm (215 + 2) (fun k => zt (zns (σ2 210) p k = true)) 0 4096 σ2 = σ3 at *
          have g3 : ∀ a k, a ≠ 217 → σ3 a k = σ2 a k := fun a k h => by rw [← hσ3]; exact yfm_f (by omega)
          have T3 : σ3 210 = σ2 210 := funext fun k => g3 _ _ (by decide)
          have e4 := s_249 w (d := 997) (by decide) (σ := σ3) (s := q) (o := 3) (n := σ2 209 1) (by decide) (by rw [T3]; exact I2.2.1.1) hq.1 (by omega)
          rw [T3] at e4
          generalize hσ4 : yfm (215 + 3) (fun k => zt (zns (σ2 210) q k = true)) 0 4096 σ3 = σ4 at *
          have g4 : ∀ a k, a ≠ 218 → σ4 a k = σ3 a k := fun a k h => by rw [← hσ4]; exact yfm_f (by omega)
          have T4 : σ4 210 = σ2 210 := (funext fun k => g4 _ _ (by decide)).trans T3
          obtain ⟨σ5, e5, -, -, f5⟩ := s_264 w (d := 997) (by decide) (σ := σ4) (p := p) (q := q) (n := σ2 209 1) (by rw [T4]; exact I2.2.1.1) (by omega) (by omega)
          rw [T4, T2] at e5
          rw [T2] at e3 e4
          have yx := yct_x (zns (σ 210) p) (zns (σ 210) q) 4096
          have yl1 := yct_le (zns (σ 210) p) 4096
          have yl2 := yct_le (zns (σ 210) q) 4096
          have yl3 := yct_le (fun k => zns (σ 210) p k && zns (σ 210) q k) 4096
          refine yps w (((yct (fun k => zns (σ 210) p k != zns (σ 210) q k) 4096 : Nat) : Int)) (σ2 := σ5) I2 (hA.trans ?_) (hb.trans ?_) (zalk_s fun a k _ _ _ _ h => (f5 a k (by omega) (by omega)).trans ((g4 a k (by omega)).trans (g3 a k (by omega))))
          · rw [hX11_says_54, m, Option.bind_some]
            dsimp only
            rw [m2, Option.bind_some]
            dsimp only
            rw [s_59 w (by decide), r1, r2, ec]; rfl
          · rw [hS σ2 T2, hX12_saysOf_45, e3, Option.bind_some]
            dsimp only
            rw [e4, Option.bind_some]
            dsimp only
            rw [e5, Option.bind_some]
            dsimp only
            rw [za_2, zw32_i (by omega), za_0, zw32_i (by omega), za_1, zw32_i (by omega), ← yx]; rfl
        · simp only [reduceIte, Int.reduceEq] at hA
          have hS : ∀ σ' : zMem, σ' 210 = σ 210 → zcall w 998 318 [zA 13 32 209, zI H, zI 10] σ' = zden w 998 318 62 [zA 13 32 209, zI H, zI 10, zI (σ 210 (11 * H + 1)), zI (σ 210 (11 * H + 2))] [] σ' := by
            intro σ' b
            rw [eX12_saysOf, s_216 w 997 hh (show (0 : Int) ≤ 1 ∧ (1 : Int) < 11 by decide), Option.bind_some]
            dsimp only
            rw [s_216 w 997 hh (show (0 : Int) ≤ 2 ∧ (2 : Int) < 11 by decide), Option.bind_some, b]
            simp only [reduceIte, Int.reduceEq]
          have hp : 0 ≤ σ 210 (11 * H + 1) ∧ σ 210 (11 * H + 1) < σ 209 1 := by unfold yun at hy; omega
          have hq : 0 ≤ σ 210 (11 * H + 2) ∧ σ 210 (11 * H + 2) < σ 209 1 := by unfold yun at hy; omega
          have hq0 := hq
          generalize σ 210 (11 * H + 1) = p at *
          generalize σ 210 (11 * H + 2) = q at *
          have r1 := (yr_86 w (s := p) (by omega)).2
          have r2 := (yr_86 w (s := q) (by omega)).2
          obtain ⟨σ1, m, P, I1, E1, n1, f1⟩ := s_198 w (d := 998) (by decide) hI hp.1 hp.2
          obtain ⟨σ2, m2, P2, I2, E2, n2, f2⟩ := s_198 w (d := 998) (by decide) I1 hq.1 (by omega)
          rw [E1] at P2
          have P1 : zPS σ2 (122 + 2 * p) (zns (σ 210) p) := by
            by_cases c : p = q
            · rw [c]; exact P2
            · exact zPS_fr (fun k => f2 _ _ (by omega) (by omega) (by omega)) P
          have T2 := E2.trans E1
          have hb := hB2 σ2 (n2.trans n1) T2 (fun k => (f2 _ _ (by omega) (by omega) (by omega)).trans (f1 _ _ (by omega) (by omega) (by omega)))
          have ec := yct_c (n := 4096) (f := fun k => zbit σ2 (122 + 2 * p) k && zbit σ2 (122 + 2 * q) k) (g := fun k => zns (σ 210) p k && zns (σ 210) q k) (fun k a b => by rw [P1 k a b, P2 k a b])
          obtain ⟨σ3, e3, -, -, f3⟩ := s_264 w (d := 997) (by decide) (σ := σ2) (p := p) (q := q) I2.2.1.1 (by omega) (by omega)
          rw [T2] at e3
          refine yps w (((yct (fun k => zns (σ 210) p k && zns (σ 210) q k) 4096 : Nat) : Int)) (σ2 := σ3) I2 (hA.trans ?_) (hb.trans ?_) (zalk_s fun a k _ _ _ _ h => f3 a k (by omega) (by omega))
          · rw [hX11_says_62, m, Option.bind_some]
            dsimp only
            rw [m2, Option.bind_some]
            dsimp only
            rw [s_58 w (by decide), r1, r2, ec]; rfl
          · rw [hS σ2 T2, hX12_saysOf_62, e3]; rfl
        · simp only [reduceIte, Int.reduceEq] at hA
          have hS : ∀ σ' : zMem, σ' 210 = σ 210 → zcall w 998 318 [zA 13 32 209, zI H, zI 11] σ' = zden w 998 318 67 [zA 13 32 209, zI H, zI 11, zI (σ 210 (11 * H + 1)), zI (σ 210 (11 * H + 2))] [] σ' := by
            intro σ' b
            rw [eX12_saysOf, s_216 w 997 hh (show (0 : Int) ≤ 1 ∧ (1 : Int) < 11 by decide), Option.bind_some]
            dsimp only
            rw [s_216 w 997 hh (show (0 : Int) ≤ 2 ∧ (2 : Int) < 11 by decide), Option.bind_some, b]
            simp only [reduceIte, Int.reduceEq]
          have ek : σ 210 (11 * H) = 11 := by unfold yun at hy; omega
          have e0 := en 0 (by decide) (by rw [ek]; decide)
          have e1 := en 1 (by decide) (by rw [ek]; decide)
          refine yop (zar 0 (zar 2 10 (σ 210 (11 * H + 5 + 0))) (σ 210 (11 * H + 5 + 1))) σ σ (hA.trans ?_) ((hB2 σ rfl rfl (fun _ => rfl)).trans ?_) hI
          · rw [hX11_says_70, eX11_saidOfNumbers, cn 0 (by decide), Option.bind_some]
            dsimp only
            rw [cn 1 (by decide), Option.bind_some]
            dsimp only
            rw [cn 2 (by decide), Option.bind_some]
            dsimp only
            rw [cn 3 (by decide), Option.bind_some]
            dsimp only
            simp only [reduceIte, Int.reduceEq]
            rw [hX11_saidOfNumbers_54, e0, e1]; rfl
          · rw [hS σ rfl, hX12_saysOf_67]
            rw [rn 0 (by decide), Option.bind_some]
            dsimp only
            rw [rn 1 (by decide), Option.bind_some]
            dsimp only
            rfl
        · simp only [reduceIte, Int.reduceEq] at hA
          have hS : ∀ σ' : zMem, σ' 210 = σ 210 → zcall w 998 318 [zA 13 32 209, zI H, zI 12] σ' = zden w 998 318 79 [zA 13 32 209, zI H, zI 12, zI (σ 210 (11 * H + 1)), zI (σ 210 (11 * H + 2))] [] σ' := by
            intro σ' b
            rw [eX12_saysOf, s_216 w 997 hh (show (0 : Int) ≤ 1 ∧ (1 : Int) < 11 by decide), Option.bind_some]
            dsimp only
            rw [s_216 w 997 hh (show (0 : Int) ≤ 2 ∧ (2 : Int) < 11 by decide), Option.bind_some, b]
            simp only [reduceIte, Int.reduceEq]
          have ek : σ 210 (11 * H) = 12 := by unfold yun at hy; omega
          have e0 := en 0 (by decide) (by rw [ek]; decide)
          have e1 := en 1 (by decide) (by rw [ek]; decide)
          have e2 := en 2 (by decide) (by rw [ek]; decide)
          refine yop (zar 0 (zar 0 (σ 210 (11 * H + 5 + 0)) (σ 210 (11 * H + 5 + 1))) (σ 210 (11 * H + 5 + 2))) σ σ (hA.trans ?_) ((hB2 σ rfl rfl (fun _ => rfl)).trans ?_) hI
          · rw [hX11_says_70, eX11_saidOfNumbers, cn 0 (by decide), Option.bind_some]
            dsimp only
            rw [cn 1 (by decide), Option.bind_some]
            dsimp only
            rw [cn 2 (by decide), Option.bind_some]
            dsimp only
            rw [cn 3 (by decide), Option.bind_some]
            dsimp only
            simp only [reduceIte, Int.reduceEq]
            rw [hX11_saidOfNumbers_60, e0, e1, e2]; rfl
          · rw [hS σ rfl, hX12_saysOf_79]
            rw [rn 0 (by decide), Option.bind_some]
            dsimp only
            rw [rn 1 (by decide), Option.bind_some]
            dsimp only
            rw [rn 2 (by decide), Option.bind_some]
            dsimp only
            rfl
        · simp only [reduceIte, Int.reduceEq] at hA
          have hS : ∀ σ' : zMem, σ' 210 = σ 210 → zcall w 998 318 [zA 13 32 209, zI H, zI 13] σ' = zden w 998 318 94 [zA 13 32 209, zI H, zI 13, zI (σ 210 (11 * H + 1)), zI (σ 210 (11 * H + 2))] [] σ' := by
            intro σ' b
            rw [eX12_saysOf, s_216 w 997 hh (show (0 : Int) ≤ 1 ∧ (1 : Int) < 11 by decide), Option.bind_some]
            dsimp only
            rw [s_216 w 997 hh (show (0 : Int) ≤ 2 ∧ (2 : Int) < 11 by decide), Option.bind_some, b]
            simp only [reduceIte, Int.reduceEq]
          have ek : σ 210 (11 * H) = 13 := by unfold yun at hy; omega
          have e1 := en 1 (by decide) (by rw [ek]; decide)
          refine yop ((σ 210 (11 * H + 5 + 1))) σ σ (hA.trans ?_) ((hB2 σ rfl rfl (fun _ => rfl)).trans ?_) hI
          · rw [hX11_says_70, eX11_saidOfNumbers, cn 0 (by decide), Option.bind_some]
            dsimp only
            rw [cn 1 (by decide), Option.bind_some]
            dsimp only
            rw [cn 2 (by decide), Option.bind_some]
            dsimp only
            rw [cn 3 (by decide), Option.bind_some]
            dsimp only
            simp only [reduceIte, Int.reduceEq]
            rw [hX11_saidOfNumbers_66, e1]; rfl
          · rw [hS σ rfl, hX12_saysOf_94]
            rw [rn 1 (by decide), Option.bind_some]
            dsimp only
            rfl
        · simp only [reduceIte, Int.reduceEq] at hA
          have hS : ∀ σ' : zMem, σ' 210 = σ 210 → zcall w 998 318 [zA 13 32 209, zI H, zI 14] σ' = zden w 998 318 94 [zA 13 32 209, zI H, zI 14, zI (σ 210 (11 * H + 1)), zI (σ 210 (11 * H + 2))] [] σ' := by
            intro σ' b
            rw [eX12_saysOf, s_216 w 997 hh (show (0 : Int) ≤ 1 ∧ (1 : Int) < 11 by decide), Option.bind_some]
            dsimp only
            rw [s_216 w 997 hh (show (0 : Int) ≤ 2 ∧ (2 : Int) < 11 by decide), Option.bind_some, b]
            simp only [reduceIte, Int.reduceEq]
          have ek : σ 210 (11 * H) = 14 := by unfold yun at hy; omega
          have e1 := en 1 (by decide) (by rw [ek]; decide)
          refine yop ((σ 210 (11 * H + 5 + 1))) σ σ (hA.trans ?_) ((hB2 σ rfl rfl (fun _ => rfl)).trans ?_) hI
          · rw [hX11_says_70, eX11_saidOfNumbers, cn 0 (by decide), Option.bind_some]
            dsimp only
            rw [cn 1 (by decide), Option.bind_some]
            dsimp only
            rw [cn 2 (by decide), Option.bind_some]
            dsimp only
            rw [cn 3 (by decide), Option.bind_some]
            dsimp only
            simp only [reduceIte, Int.reduceEq]
            rw [hX11_saidOfNumbers_66, e1]; rfl
          · rw [hS σ rfl, hX12_saysOf_94]
            rw [rn 1 (by decide), Option.bind_some]
            dsimp only
            rfl
        · simp only [reduceIte, Int.reduceEq] at hA
          have hS : ∀ σ' : zMem, σ' 210 = σ 210 → zcall w 998 318 [zA 13 32 209, zI H, zI 15] σ' = zden w 998 318 99 [zA 13 32 209, zI H, zI 15, zI (σ 210 (11 * H + 1)), zI (σ 210 (11 * H + 2))] [] σ' := by
            intro σ' b
            rw [eX12_saysOf, s_216 w 997 hh (show (0 : Int) ≤ 1 ∧ (1 : Int) < 11 by decide), Option.bind_some]
            dsimp only
            rw [s_216 w 997 hh (show (0 : Int) ≤ 2 ∧ (2 : Int) < 11 by decide), Option.bind_some, b]
            simp only [reduceIte, Int.reduceEq]
          have ek : σ 210 (11 * H) = 15 := by unfold yun at hy; omega
          have e0 := en 0 (by decide) (by rw [ek]; decide)
          have e1 := en 1 (by decide) (by rw [ek]; decide)
          refine yop (zar 1 (zar 1 3 (σ 210 (11 * H + 5 + 0))) (σ 210 (11 * H + 5 + 1))) σ σ (hA.trans ?_) ((hB2 σ rfl rfl (fun _ => rfl)).trans ?_) hI
          · rw [hX11_says_70, eX11_saidOfNumbers, cn 0 (by decide), Option.bind_some]
            dsimp only
            rw [cn 1 (by decide), Option.bind_some]
            dsimp only
            rw [cn 2 (by decide), Option.bind_some]
            dsimp only
            rw [cn 3 (by decide), Option.bind_some]
            dsimp only
            simp only [reduceIte, Int.reduceEq]
            rw [hX11_saidOfNumbers_68, e0, e1]; rfl
          · rw [hS σ rfl, hX12_saysOf_99]
            rw [rn 0 (by decide), Option.bind_some]
            dsimp only
            rw [rn 1 (by decide), Option.bind_some]
            dsimp only
            rfl
        · simp only [reduceIte, Int.reduceEq] at hA
          have hS : ∀ σ' : zMem, σ' 210 = σ 210 → zcall w 998 318 [zA 13 32 209, zI H, zI 16] σ' = zden w 998 318 111 [zA 13 32 209, zI H, zI 16, zI (σ 210 (11 * H + 1)), zI (σ 210 (11 * H + 2))] [] σ' := by
            intro σ' b
            rw [eX12_saysOf, s_216 w 997 hh (show (0 : Int) ≤ 1 ∧ (1 : Int) < 11 by decide), Option.bind_some]
            dsimp only
            rw [s_216 w 997 hh (show (0 : Int) ≤ 2 ∧ (2 : Int) < 11 by decide), Option.bind_some, b]
            simp only [reduceIte, Int.reduceEq]
          have ek : 12 ≤ σ 210 (11 * H) ∧ σ 210 (11 * H) ≤ 17 := by unfold yun at hy; omega
          have zk : 2 ≤ zno (σ 210 (11 * H)) := by unfold zno; (repeat' split) <;> omega
          have e0 := en 0 (by decide) (by omega)
          refine yop ((σ 210 (11 * H + 5 + 0))) σ σ (hA.trans ?_) ((hB2 σ rfl rfl (fun _ => rfl)).trans ?_) hI
          · rw [hX11_says_70, eX11_saidOfNumbers, cn 0 (by decide), Option.bind_some]
            dsimp only
            rw [cn 1 (by decide), Option.bind_some]
            dsimp only
            rw [cn 2 (by decide), Option.bind_some]
            dsimp only
            rw [cn 3 (by decide), Option.bind_some]
            dsimp only
            simp only [reduceIte, Int.reduceEq]
            rw [hX11_saidOfNumbers_74, e0]; rfl
          · rw [hS σ rfl, hX12_saysOf_111]
            rw [rn 0 (by decide), Option.bind_some]
            dsimp only
            rfl
        · simp only [reduceIte, Int.reduceEq] at hA
          have hS : ∀ σ' : zMem, σ' 210 = σ 210 → zcall w 998 318 [zA 13 32 209, zI H, zI 17] σ' = zden w 998 318 111 [zA 13 32 209, zI H, zI 17, zI (σ 210 (11 * H + 1)), zI (σ 210 (11 * H + 2))] [] σ' := by
            intro σ' b
            rw [eX12_saysOf, s_216 w 997 hh (show (0 : Int) ≤ 1 ∧ (1 : Int) < 11 by decide), Option.bind_some]
            dsimp only
            rw [s_216 w 997 hh (show (0 : Int) ≤ 2 ∧ (2 : Int) < 11 by decide), Option.bind_some, b]
            simp only [reduceIte, Int.reduceEq]
          have ek : σ 210 (11 * H) = 17 := by unfold yun at hy; omega
          have e0 := en 0 (by decide) (by rw [ek]; decide)
          refine yop ((σ 210 (11 * H + 5 + 0))) σ σ (hA.trans ?_) ((hB2 σ rfl rfl (fun _ => rfl)).trans ?_) hI
          · rw [hX11_says_70, eX11_saidOfNumbers, cn 0 (by decide), Option.bind_some]
            dsimp only
            rw [cn 1 (by decide), Option.bind_some]
            dsimp only
            rw [cn 2 (by decide), Option.bind_some]
            dsimp only
            rw [cn 3 (by decide), Option.bind_some]
            dsimp only
            simp only [reduceIte, Int.reduceEq]
            rw [hX11_saidOfNumbers_74, e0]; rfl
          · rw [hS σ rfl, hX12_saysOf_111]
            rw [rn 0 (by decide), Option.bind_some]
            dsimp only
            rfl
  · rw [if_pos h] at e145
    rw [e145, Option.bind_some] at hA
    exact ref (-62) (by decide) hA (by rw [bz, if_pos h])
end
