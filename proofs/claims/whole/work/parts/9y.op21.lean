section
theorem yon (p : Int) : zon p 0 = p / 256 ∧ zon p 1 = p / 16 % 16 ∧ zon p 2 = p % 16 := ⟨rfl, rfl, rfl⟩
theorem yand1 {x : Int} (h : 0 ≤ x ∧ x ≤ 3) : zar 6 x 1 = x % 2 ∧ zar 4 x 2 = x % 2 := by
  have h1 : zu32 x &&& 1 = zu32 x % 2 ^ 1 := Nat.and_two_pow_sub_one_eq_mod _ 1
  have h2 : zu32 1 = 1 := rfl
  have h3 : zu32 x = x.toNat := by unfold zu32; omega
  refine ⟨?_, ?_⟩
  · rw [za_6, zand, h2, h1, h3, zw32_i (by omega)]
    omega
  · rw [za_4, Int.tmod_eq_emod_of_nonneg h.1]
theorem op_21 (w : zW) (x1 x2 x3 x4 : Int) : zOp zInv w 164 247 [zI x1, zI x2, zI x3, zI x4] := by
  intro σ hI
  have hT := hI.2.1.1
  have hTb := hI.2.1.2
  have hn : 0 ≤ σ 209 1 ∧ σ 209 1 ≤ 24 := ⟨hT.1, hT.2.1⟩
  have e1 := eX11_bounds w 998 x1 x2 x3 x4 σ
  have e2 := eX12_bounds w 998 x1 x2 x3 x4
  have c7 : σ 2 7 = σ 209 1 := hTb.1
  by_cases h : (0 ≤ x1 ∧ x1 < σ 209 1) ∧ ((0 ≤ x2 ∧ x2 < 4096) ∧ (0 ≤ x3 ∧ x3 < 4096) ∧ zon x2 0 ≤ zon x3 0 ∧ zon x2 1 ≤ zon x3 1 ∧ zon x2 2 ≤ zon x3 2) ∧ 0 ≤ x4 ∧ x4 ≤ 3
  · obtain ⟨h1, hr, h4⟩ := h
    have hr' := hr
    obtain ⟨h2, h3, g0, g1, g2⟩ := hr
    have g := (hT.2.2 x1 h1.1 h1.2).2
    obtain ⟨σ1, σ2, m1, m2, m3, m4⟩ := s_93 w 998 (a := 184) (x := zon x2 0) (y := zon x2 1) (z := zon x2 2) (u := zon x3 0) (v := zon x3 1) (t := zon x3 2) (Or.inr rfl) σ
    have hb : yrb 99 ((zon x2 0, zon x3 0), (zon x2 1, zon x3 1), (zon x2 2, zon x3 2)) := by
      obtain ⟨o1, o2, o3⟩ := yon x2
      obtain ⟨p1, p2, p3⟩ := yon x3
      unfold yrb; dsimp only; omega
    have hTb2 : zTb 2 σ2 (σ 210) (σ 209 1) := zTb_fr (fun c k p q => m4 c k (by omega)) hTb
    obtain ⟨σ3, m5, m6, m7⟩ := s_97 w (d := 998) (by decide) (a := 184) (Or.inr rfl) hT h1.1 h1.2 hTb2 m3 hb
    have q := yQ_bd hT 7 x1 _ h1.1 h1.2 (by omega) (yrb_i (by omega) hb)
    have F3 : ∀ c k, (c < 185 ∨ 203 < c) → σ3 c k = σ c k := fun c k h => (m7 c k (by omega)).trans (m4 c k (by omega))
    have E : σ3 210 = σ 210 := funext fun k => F3 _ _ (by decide)
    have n1 : σ3 209 1 = σ 209 1 := F3 _ _ (by decide)
    obtain ⟨σ4, k1, k2, k3, k4⟩ := s_230 w (n := σ 209 1) 7 998 x1 ((zon x2 0, zon x3 0), (zon x2 1, zon x3 1), (zon x2 2, zon x3 2)) σ3 (by rw [E]; exact hT) (by decide) h1.1 h1.2 (by rw [E]; omega) (by rw [E]; exact yrb_i (by omega) hb)
    rw [E] at k2 k3
    dsimp only [yBa] at k1
    generalize zbd (σ 210) 7 x1 ((zon x2 0, zon x3 0), (zon x2 1, zon x3 1), (zon x2 2, zon x3 2)) = V at *
    have f1 := fun x => s_226 w (d := 998) (by decide) m6.1 q.1 (by omega) x σ4
    have f2 := fun x => s_226 w (d := 998) (by decide) m6.2 q.2 (by omega) x σ4
    have hp : x4 % 2 = 0 ∨ x4 % 2 = 1 := by omega
    refine yop (if x4 < 2 then (if x4 % 2 = 0 then σ3 188 0 else σ3 188 1) else (if x4 % 2 = 0 then σ3 189 0 else σ3 189 1)) σ3 σ4 (e1.trans ?_) ((e2 σ3).trans ?_)
      (zalk_I hI (zalk_s fun a k _ _ _ h h' => (k4 a k (by omega) (by omega)).trans (F3 a k (by omega))))
    · rw [s_197 w (by decide), Option.bind_some]
      dsimp only
      rw [zt_if, if_pos (by omega), s_207 w (by decide), Option.bind_some]
      dsimp only
      rw [zt_if, if_pos hr', s_200, Option.bind_some]
      dsimp only
      rw [zt_if, if_pos h4, s_209 w (by decide) h2 (by decide), Option.bind_some]
      dsimp only
      rw [s_209 w (by decide) h2 (by decide), Option.bind_some]
      dsimp only
      rw [s_209 w (by decide) h2 (by decide), Option.bind_some]
      dsimp only
      rw [m1, Option.bind_some]
      dsimp only
      rw [s_209 w (by decide) h3 (by decide), Option.bind_some]
      dsimp only
      rw [s_209 w (by decide) h3 (by decide), Option.bind_some]
      dsimp only
      rw [s_209 w (by decide) h3 (by decide), Option.bind_some]
      dsimp only
      rw [m2, Option.bind_some]
      dsimp only
      rw [m5, Option.bind_some]
      dsimp only
      rw [(yand1 h4).1]
      simp only [eX8_lowest, eX8_highest, Option.bind_some, eX1_numerator, eX1_denominator]
      have a1 : zR w (zR w 184 1) 0 = 188 := rfl
      have a2 : zR w (zR w 184 2) 0 = 189 := rfl
      rw [a1, a2]
      (repeat' split) <;> rfl
    · obtain ⟨o1, o2, o3⟩ := yon x2
      obtain ⟨p1, p2, p3⟩ := yon x3
      have i1 : ∀ p : Int, 0 ≤ p ∧ p < 4096 → zcall w 998 246 [zI p] σ3 = some (1, σ3) := fun p hp => by rw [s_246 w (by decide), zt_p hp]
      rw [o1, o2, o3, p1, p2, p3] at k1
      rw [s_218 w (by decide) _ (by rw [n1]; exact hn), Option.bind_some]
      dsimp only
      rw [zt_if, n1, if_pos h1, i1 x2 h2, Option.bind_some]
      dsimp only
      rw [if_neg (by decide), i1 x3 h3, Option.bind_some]
      dsimp only
      rw [if_neg (by decide), s_243, Option.bind_some]
      dsimp only
      rw [s_243, Option.bind_some]
      dsimp only
      rw [if_neg (by omega), s_244 w 998 h2, Option.bind_some]
      dsimp only
      rw [s_244 w 998 h3, Option.bind_some]
      dsimp only
      rw [if_neg (by omega), s_245 w 998 h2, Option.bind_some]
      dsimp only
      rw [s_245 w 998 h3, Option.bind_some]
      dsimp only
      rw [if_neg (by omega), s_213, Option.bind_some]
      dsimp only
      rw [zt_if, if_pos h4, s_243, Option.bind_some]
      dsimp only
      rw [s_243, Option.bind_some]
      dsimp only
      rw [s_244 w 998 h2, Option.bind_some]
      dsimp only
      rw [s_244 w 998 h3, Option.bind_some]
      dsimp only
      rw [s_245 w 998 h2, Option.bind_some]
      dsimp only
      rw [s_245 w 998 h3, Option.bind_some]
      dsimp only
      rw [k1, Option.bind_some]
      dsimp only
      rw [k2, k3, (yand1 h4).2, f1, f1, f2, f2]
      simp only [Option.bind_some, if_true, show ¬ (1 : Int) = 0 by decide, if_false, show (184 + 4 + 2 * 0 : Int) = 188 from rfl, show (184 + 5 + 2 * 0 : Int) = 189 from rfl]
      (repeat' split) <;> rfl
  · refine yop (-62 - 9000000000000) (zrA σ (-62)) (zrB (zrA σ (-62)) (-62)) (e1.trans ?_) ((e2 _).trans ?_) (zref0 hI)
    · simp only [s_197 w (show 1 ≤ 998 by decide), s_207 w (show 2 ≤ 998 by decide), s_200, s_194 w 998 (n := -62) (by decide), Option.bind_some, zt_if, yfar (n := -62) (by decide), c7]
      by_cases u1 : 0 ≤ x1 ∧ x1 < σ 209 1
      · rw [if_pos u1]
        by_cases u2 : (0 ≤ x2 ∧ x2 < 4096) ∧ (0 ≤ x3 ∧ x3 < 4096) ∧ zon x2 0 ≤ zon x3 0 ∧ zon x2 1 ≤ zon x3 1 ∧ zon x2 2 ≤ zon x3 2
        · rw [if_pos u2, if_neg (fun u => h ⟨u1, u2, u⟩)]
        · rw [if_neg u2]
      · rw [if_neg u1]
    · have n1 : zrA σ (-62) 209 1 = σ 209 1 := zup_f (by omega)
      generalize hσ' : zrA σ (-62) = σ' at *
      rw [s_218 w (show 1 ≤ 998 by decide) x1 (by rw [n1]; exact hn), Option.bind_some]
      dsimp only
      have bad : ((zcall w 998 215 [zA 13 32 209, zI (-62)] σ').bind fun r4 => some (r4.1, r4.2)) = some (-62 - 9000000000000, zrB σ' (-62)) := by rw [s_215 w (show 1 ≤ 998 by decide) (n := -62) (by decide)]; rfl
      rw [zt_if, n1]
      by_cases u1 : 0 ≤ x1 ∧ x1 < σ 209 1
      · rw [if_pos u1, s_246 w (by decide), Option.bind_some]
        dsimp only
        rw [zt_if]
        by_cases u2 : 0 ≤ x2 ∧ x2 < 4096
        · rw [if_pos u2, s_246 w (by decide), Option.bind_some]
          dsimp only
          rw [zt_if]
          by_cases u3 : 0 ≤ x3 ∧ x3 < 4096
          · obtain ⟨o1, o2, o3⟩ := yon x2
            obtain ⟨p1, p2, p3⟩ := yon x3
            rw [if_pos u3, s_243, Option.bind_some]
            dsimp only
            rw [s_243, Option.bind_some]
            dsimp only
            by_cases u4 : x3 / 256 < x2 / 256
            · rw [if_pos u4]; exact bad
            · rw [if_neg u4, s_244 w 998 u2, Option.bind_some]
              dsimp only
              rw [s_244 w 998 u3, Option.bind_some]
              dsimp only
              by_cases u5 : x3 / 16 % 16 < x2 / 16 % 16
              · rw [if_pos u5]; exact bad
              · rw [if_neg u5, s_245 w 998 u2, Option.bind_some]
                dsimp only
                rw [s_245 w 998 u3, Option.bind_some]
                dsimp only
                by_cases u6 : x3 % 16 < x2 % 16
                · rw [if_pos u6]; exact bad
                · rw [if_neg u6, s_213, Option.bind_some]
                  dsimp only
                  rw [zt_if, if_neg (fun u => h ⟨u1, ⟨u2, u3, by omega, by omega, by omega⟩, u⟩)]
                  exact bad
          · rw [if_neg u3]; exact bad
        · rw [if_neg u2]; exact bad
      · rw [if_neg u1]; exact bad
end
