section
/-! Calls 35 and 36: kinds, judge: what is told in twos -/
/-- the i-th two is a place and 0 or 1 -/
def ytw (E : Int → Int) (i : Int) : Prop := (0 ≤ E (2 * i) ∧ E (2 * i) ≤ 4095) ∧ 0 ≤ E (2 * i + 1) ∧ E (2 * i + 1) ≤ 1
theorem l_196 (w : zW) {d : Nat} (hd : 2 ≤ d) {s n : Int} {E : Int → Int} {σ : zMem} (hs : 0 ≤ s ∧ s < 8) (hn : n ≤ 20) (h76 : 2 * n ≤ σ 76 s) (h77 : ∀ i : Int, 0 ≤ i → i < 40 → σ 77 (40 * s + i) = E i) : ∀ (m : Nat) (i : Int), 0 ≤ i → i + m = n →
    ∃ R : Int, (∀ v3 v5 v7 : zV, zden w (d + 1) 196 20 [zA 12 16 1, zI s, zI n, v3, zI i, v5, zU, v7, zU] [] σ = some (R, σ)) ∧ (∀ σ' : zMem, (∀ j : Int, 0 ≤ j → j < 40 → σ' 228 (40 * s + j) = E j) → zden w (d + 1) 319 27 [zA 13 32 209, zI s, zI n, zI i] [] σ' = some (R, σ'))
      ∧ (R = 0 ∨ R = -65) ∧ (R = 0 → ∀ j : Int, i ≤ j → j < n → ytw E j) := by
  intro m
  induction m with
  | zero =>
    intro i h0 h
    refine ⟨0, fun v3 v5 v7 => ?_, fun σ' _ => ?_, Or.inl rfl, fun _ j a b => by omega⟩
    · rw [hX11_toldRefusal_20, if_neg (by omega)]
    · rw [hX12_isTold_27, if_neg (by omega)]
  | succ m ih =>
    intro i h0 h
    obtain ⟨R, a1, a2, a3, a4⟩ := ih (i + 1) (by omega) (by omega)
    have e1 : zar 0 i 1 = i + 1 := by rw [za_0, zw32_i (by omega)]
    have e2 : zar 2 2 i = 2 * i := by rw [za_2, zw32_i (by omega)]
    have e3 : zar 0 (2 * i) 1 = 2 * i + 1 := by rw [za_0, zw32_i (by omega)]
    have e4 : zar 0 (zar 2 40 s) (2 * i) = 40 * s + 2 * i := by rw [za_2, zw32_i (by omega), za_0, zw32_i (by omega)]
    have e5 : zar 0 (40 * s + 2 * i) 1 = 40 * s + (2 * i + 1) := by rw [za_0, zw32_i (by omega)]; omega
    have c1 : ∀ (F : Int), (∀ v5 v7 v3 : zV, zden w (d + 1) 196 20 [zA 12 16 1, zI s, zI n, v3, zI (i + 1), v5, zU, v7, zU] [] σ = some (F, σ)) → ∀ v3 v5 v7 : zV, zden w (d + 1) 196 20 [zA 12 16 1, zI s, zI n, v3, zI i, v5, zU, v7, zU] [] σ = some (if E (2 * i) < 0 then -65 else if E (2 * i) < 4096 then if E (2 * i + 1) < 0 then -65 else if 1 < E (2 * i + 1) then -65 else F else -65, σ) := by
      intro F hF v3 v5 v7
      rw [hX11_toldRefusal_20, if_pos (by omega), e1, e2, e3, s_88 w hd, if_pos ⟨hs, by omega, by omega⟩, h77 _ (by omega) (by omega), Option.bind_some]
      dsimp only
      rw [s_88 w hd, if_pos ⟨hs, by omega, by omega⟩, h77 _ (by omega) (by omega), Option.bind_some]
      dsimp only
      simp only [zcmp_lt, zcmp_gt, hF]
      (repeat' split) <;> rfl
    have c2 : ∀ (F : Int) (σ' : zMem), (∀ j : Int, 0 ≤ j → j < 40 → σ' 228 (40 * s + j) = E j) → zden w (d + 1) 319 27 [zA 13 32 209, zI s, zI n, zI (i + 1)] [] σ' = some (F, σ') → zden w (d + 1) 319 27 [zA 13 32 209, zI s, zI n, zI i] [] σ' = some (if 0 ≤ E (2 * i) ∧ E (2 * i) ≤ 4095 then if 0 ≤ E (2 * i + 1) ∧ E (2 * i + 1) ≤ 1 then F else -65 else -65, σ') := by
      intro F σ' hE hF
      rw [hX12_isTold_27, if_pos (by omega), e1, e2, e4, if_pos (by omega), s_213, Option.bind_some]
      dsimp only
      rw [zt_if, e5, hE _ (by omega) (by omega)]
      by_cases u : 0 ≤ E (2 * i) ∧ E (2 * i) ≤ 4095
      · rw [if_pos u, if_pos u, if_pos (by omega), s_213, Option.bind_some]
        dsimp only
        rw [zt_if, hE _ (by omega) (by omega), hF]
        split <;> rfl
      · rw [if_neg u, if_neg u]
    by_cases u : ytw E i
    · refine ⟨R, fun v3 v5 v7 => ?_, fun σ' hE => ?_, a3, fun hR j x y => ?_⟩
      · obtain ⟨u1, u2⟩ := u
        rw [c1 R (fun v5 v7 v3 => a1 v3 v5 v7), if_neg (by omega), if_pos (by omega), if_neg (by omega), if_neg (by omega)]
      · rw [c2 R σ' hE (a2 σ' hE), if_pos u.1, if_pos u.2]
      · by_cases e : j = i
        · rw [e]; exact u
        · exact a4 hR j (by omega) y
    · refine ⟨-65, fun v3 v5 v7 => ?_, fun σ' hE => ?_, Or.inr rfl, fun hR => by omega⟩
      · rw [c1 R (fun v5 v7 v3 => a1 v3 v5 v7)]
        unfold ytw at u
        congr 2
        (repeat' split) <;> first | rfl | (exfalso; omega)
      · rw [c2 R σ' hE (a2 σ' hE)]
        unfold ytw at u
        congr 2
        (repeat' split) <;> first | rfl | (exfalso; omega)
theorem ytold (w : zW) {s n : Int} {σ : zMem} (hI : zInv σ) (hs : 0 ≤ s ∧ s < 8) (hn : 0 ≤ n ∧ n ≤ 20) :
    ∃ R : Int, zcall w 998 196 [zA 12 16 1, zI s, zI n] σ = some (R, σ) ∧ (∀ σ' : zMem, (∀ a k, a = 226 ∨ a = 227 ∨ a = 228 → σ' a k = σ a k) → zcall w 998 319 [zA 13 32 209, zI s, zI n] σ' = some (R, σ')) ∧ (R = 0 ∨ (-66 ≤ R ∧ R ≤ -62))
      ∧ (R = 0 → 2 * n ≤ σ 76 s ∧ σ 76 s ≤ 40 ∧ ∀ i : Int, 0 ≤ i → i < n → ytw (fun j => σ 228 (40 * s + j)) i) := by
  have g := hI.2.2.2.2.2.1 s hs.1 hs.2
  have e2 : zar 2 2 n = 2 * n := by rw [za_2, zw32_i (by omega)]
  have hA := eX11_toldRefusal w 997 s n σ
  have hB : ∀ σ' : zMem, (∀ a k, a = 226 ∨ a = 227 ∨ a = 228 → σ' a k = σ a k) → zcall w 998 319 [zA 13 32 209, zI s, zI n] σ' = if 4 < σ 226 s then some (-63, σ') else if σ 226 s < 0 then some (-64, σ') else if σ 227 s < 2 * n then some (-62, σ') else zden w 998 319 27 [zA 13 32 209, zI s, zI n, zI 0] [] σ' := by
    intro σ' h
    refine (eX12_isTold w 997 s n σ').trans ?_
    rw [if_pos hs, if_pos hs, if_pos hs, h 226 _ (by decide), h 227 _ (by decide), e2]
  by_cases c1 : σ 226 s = -1
  · rw [s_195n w (by decide) hs (by omega), Option.bind_some] at hA
    dsimp only at hA
    rw [if_neg (by decide)] at hA
    exact ⟨-64, hA, fun σ' h => by rw [hB σ' h, if_neg (by omega), if_pos (by omega)], Or.inr (by decide), fun u => by omega⟩
  · by_cases c2 : 10 ≤ σ 226 s
    · rw [s_195o w (by decide) hs (by omega), Option.bind_some] at hA
      dsimp only at hA
      rw [if_neg (by decide)] at hA
      exact ⟨-63, hA, fun σ' h => by rw [hB σ' h, if_pos (by omega)], Or.inr (by decide), fun u => by omega⟩
    · have r : 0 ≤ σ 226 s ∧ σ 226 s ≤ 4 ∧ σ 76 s = σ 227 s ∧ 0 ≤ σ 227 s ∧ σ 227 s ≤ 40 := by omega
      rw [s_195r w (by decide) hs (by omega), Option.bind_some] at hA
      dsimp only at hA
      rw [if_pos rfl, s_82 w (by decide), Option.bind_some] at hA
      dsimp only at hA
      rw [if_pos hs, e2] at hA
      by_cases c3 : σ 76 s < 2 * n
      · rw [if_pos c3] at hA
        exact ⟨-62, hA, fun σ' h => by rw [hB σ' h, if_neg (by omega), if_neg (by omega), if_pos (by omega)], Or.inr (by decide), fun u => by omega⟩
      · rw [if_neg c3] at hA
        obtain ⟨R, a1, a2, a3, a4⟩ := l_196 w (d := 997) (by decide) (E := fun j => σ 228 (40 * s + j)) hs hn.2 (by omega) (fun i x y => g.2.2 i x y) n.toNat 0 (by decide) (by omega)
        refine ⟨R, hA.trans (a1 _ _ _), fun σ' h => ?_, by omega, fun u => ⟨by omega, by omega, fun i x y => a4 u i x y⟩⟩
        rw [hB σ' h, if_neg (by omega), if_neg (by omega), if_neg (by omega)]
        exact a2 σ' (fun j _ _ => h 228 _ (by decide))
/-! judge -/
def yjd (g : Int → Bool) (E : Int → Int) : Nat → Int → Int
  | 0, _ => -1
  | m + 1, i => if E (2 * i + 1) = 1 then (if g (E (2 * i)) = true then yjd g E m (i + 1) else i) else if g (E (2 * i)) = true then i else yjd g E m (i + 1)
theorem l_183 (w : zW) {x1 s n : Int} {E : Int → Int} {T : Int → Int} {N : Int} (hs : 0 ≤ s ∧ s < 8) (hn : n ≤ 20) (h1 : 0 ≤ x1 ∧ x1 < N) (hE : ∀ i : Int, 0 ≤ i → i < n → ytw E i) : ∀ (m : Nat) (i : Int) (v4 v6 : zV) (σ : zMem), 0 ≤ i → i + m = n → zInv σ → σ 210 = T → σ 209 1 = N → 2 * n ≤ σ 76 s → (∀ j : Int, 0 ≤ j → j < 40 → σ 77 (40 * s + j) = E j) →
    ∃ σ', zden w 999 183 29 [zA 12 16 1, zI x1, zI s, zI n, v4, zI i, v6] [] σ = some (yjd (zns T x1) E m i, σ') ∧ zInv σ' ∧ σ' 210 = T ∧ σ' 209 1 = N ∧ ∀ a k, (a = 226 ∨ a = 227 ∨ a = 228) → σ' a k = σ a k := by
  intro m
  induction m with
  | zero =>
    intro i v4 v6 σ h0 h hI hT hN h76 h77
    refine ⟨σ, ?_, hI, hT, hN, fun _ _ _ => rfl⟩
    show zden w (998 + 1) 183 29 _ [] σ = _
    rw [hX11_judge_29, if_neg (by omega)]; rfl
  | succ m ih =>
    intro i v4 v6 σ h0 h hI hT hN h76 h77
    have e1 : zar 0 i 1 = i + 1 := by rw [za_0, zw32_i (by omega)]
    have e2 : zar 2 2 i = 2 * i := by rw [za_2, zw32_i (by omega)]
    have e3 : zar 0 (2 * i) 1 = 2 * i + 1 := by rw [za_0, zw32_i (by omega)]
    obtain ⟨q1, q2⟩ := hE i h0 (by omega)
    have e5 : zar 23 (E (2 * i)) 0 = E (2 * i) := by rw [za_23, zw32_i (by omega)]
    obtain ⟨σ1, m1, P, I1, T1, N1, f1⟩ := s_198 w (d := 998) (by decide) hI h1.1 (by omega)
    have h24 := hI.2.1.1.2.1
    have r2 := (yr_86 w (s := x1) ⟨h1.1, by omega⟩).2
    rw [hT] at P T1
    rw [hN] at N1
    have w76 : σ1 76 s = σ 76 s := f1 _ _ (by omega) (by omega) (by omega)
    have w77 : ∀ j : Int, 0 ≤ j → j < 40 → σ1 77 (40 * s + j) = E j := fun j x y => (f1 _ _ (by omega) (by omega) (by omega)).trans (h77 j x y)
    have w228 : ∀ a k, (a = 226 ∨ a = 227 ∨ a = 228) → σ1 a k = σ a k := fun a k u => f1 _ _ (by omega) (by omega) (by omega)
    have el : zcall w 998 88 [zA 8 3 74, zI s, zI (2 * i + 1)] σ = some (E (2 * i + 1), σ) := by rw [s_88 w (by decide), if_pos ⟨hs, by omega, by omega⟩, h77 _ (by omega) (by omega)]
    have el1 : zcall w 998 88 [zA 8 3 74, zI s, zI (2 * i)] σ1 = some (E (2 * i), σ1) := by rw [s_88 w (by decide), if_pos ⟨hs, by omega, by omega⟩, w77 _ (by omega) (by omega)]
    have cont : ∀ v4 v6 : zV, ∃ σ', zden w 999 183 29 [zA 12 16 1, zI x1, zI s, zI n, v4, zI (i + 1), v6] [] σ1 = some (yjd (zns T x1) E m (i + 1), σ') ∧ zInv σ' ∧ σ' 210 = T ∧ σ' 209 1 = N ∧ ∀ a k, (a = 226 ∨ a = 227 ∨ a = 228) → σ' a k = σ a k := by
      intro v4 v6
      obtain ⟨σ', k1, k2, k3, k4, k5⟩ := ih (i + 1) v4 v6 σ1 (by omega) (by omega) I1 T1 N1 (by omega) w77
      exact ⟨σ', k1, k2, k3, k4, fun a k u => (k5 a k u).trans (w228 a k u)⟩
    show ∃ σ', zden w (998 + 1) 183 29 _ [] σ = _ ∧ _
    rw [hX11_judge_29, if_pos (by omega), e1, e2, e3, el, Option.bind_some, yjd]
    dsimp only
    rw [zcmp_eq]
    by_cases c1 : E (2 * i + 1) = 1
    · rw [if_pos c1, if_pos c1, m1, Option.bind_some]
      dsimp only
      rw [el1, Option.bind_some]
      dsimp only
      rw [e5, s_49g w (by decide) r2 P, Option.bind_some, yvl_p (by omega)]
      dsimp only
      by_cases c2 : zns T x1 (E (2 * i)) = true
      · rw [if_pos c2, zt_p c2, if_pos rfl]
        exact cont _ _
      · rw [if_neg c2, zt_n c2, if_neg (by decide)]
        exact ⟨σ1, rfl, I1, T1, N1, w228⟩
    · rw [if_neg c1, if_neg c1, m1, Option.bind_some]
      dsimp only
      rw [el1, Option.bind_some]
      dsimp only
      rw [e5, s_49g w (by decide) r2 P, Option.bind_some, yvl_p (by omega)]
      dsimp only
      by_cases c2 : zns T x1 (E (2 * i)) = true
      · rw [if_pos c2, zt_p c2, if_neg (by decide)]
        exact ⟨σ1, rfl, I1, T1, N1, w228⟩
      · rw [if_neg c2, zt_n c2, if_pos rfl]
        exact cont _ _
theorem l_322 (w : zW) {d : Nat} (hd : 20 ≤ d) {x1 s n : Int} {E : Int → Int} {N : Int} {σ : zMem} (hs : 0 ≤ s ∧ s < 8) (hn : n ≤ 20) (h1 : 0 ≤ x1 ∧ x1 < N) (hE : ∀ i : Int, 0 ≤ i → i < n → ytw E i) (hT : zWF (σ 210) N) (h228 : ∀ j : Int, 0 ≤ j → j < 40 → σ 228 (40 * s + j) = E j) : ∀ (m : Nat) (i : Int) (v4 : zV), 0 ≤ i → i + m = n →
    zden w (d + 1) 322 30 [zA 13 32 209, zI x1, zI s, zI n, v4, zI i] [] σ = some (yjd (zns (σ 210) x1) E m i, σ) := by
  intro m
  induction m with
  | zero => intro i v4 h0 h; rw [hX12_judge_30, if_neg (by omega)]; rfl
  | succ m ih =>
    intro i v4 h0 h
    have e1 : zar 0 i 1 = i + 1 := by rw [za_0, zw32_i (by omega)]
    have e2 : zar 2 2 i = 2 * i := by rw [za_2, zw32_i (by omega)]
    have e4 : zar 0 (zar 2 40 s) (2 * i) = 40 * s + 2 * i := by rw [za_2, zw32_i (by omega), za_0, zw32_i (by omega)]
    have e5 : zar 0 (40 * s + 2 * i) 1 = 40 * s + (2 * i + 1) := by rw [za_0, zw32_i (by omega)]; omega
    obtain ⟨q1, q2⟩ := hE i h0 (by omega)
    have e6 : zar 23 (E (2 * i)) 0 = E (2 * i) := by rw [za_23, zw32_i (by omega)]
    rw [hX12_judge_30, if_pos (by omega), e1, e2, e4, if_pos (by omega), h228 _ (by omega) (by omega), e6, s_248 w hd hT h1.1 h1.2 (by omega), Option.bind_some, yjd]
    dsimp only
    rw [e5, if_pos (by omega), ih _ _ (by omega) (by omega)]
    simp only [h228 _ (show (0 : Int) ≤ 2 * i + 1 by omega) (show 2 * i + 1 < 40 by omega), zcmp_eq]
    by_cases c1 : E (2 * i + 1) = 1
    · rw [if_pos c1, if_pos c1]
      by_cases c2 : zns (σ 210) x1 (E (2 * i)) = true
      · rw [if_pos c2, zt_p c2, if_pos rfl]
      · rw [if_neg c2, zt_n c2, if_neg (by decide)]
    · rw [if_neg c1, if_neg c1]
      by_cases c2 : zns (σ 210) x1 (E (2 * i)) = true
      · rw [if_pos c2, zt_p c2, if_neg (by decide)]
      · rw [if_neg c2, zt_n c2, if_pos rfl]
theorem op_36 (w : zW) (x1 x2 x3 : Int) : zOp zInv w 183 322 [zI x1, zI x2, zI x3] := by
  intro σ hI
  by_cases h : (0 ≤ x1 ∧ x1 < σ 209 1) ∧ (0 ≤ x2 ∧ x2 < 8) ∧ (0 ≤ x3 ∧ x3 ≤ 20)
  · obtain ⟨h1, h2, h3⟩ := h
    obtain ⟨R, t1, t2, t3, t4⟩ := ytold w hI h2 h3
    have hA := eX11_judge w 998 x1 x2 x3 σ
    rw [yA1 w hI, Option.bind_some] at hA
    dsimp only at hA
    rw [zt_if, if_pos h1, s_201, Option.bind_some] at hA
    dsimp only at hA
    rw [zt_if, if_pos h2, s_200, Option.bind_some] at hA
    dsimp only at hA
    rw [zt_if, if_pos h3, t1, Option.bind_some] at hA
    dsimp only at hA
    have hB : ∀ σ' : zMem, 0 ≤ σ' 209 1 ∧ σ' 209 1 ≤ 24 → x1 < σ' 209 1 → (∀ a k, a = 226 ∨ a = 227 ∨ a = 228 → σ' a k = σ a k) → zcall w 999 322 [zA 13 32 209, zI x1, zI x2, zI x3] σ' = if R < 0 then (zcall w 998 214 [zA 13 32 209, zI R] σ').bind fun r8 => some (r8.1, r8.2) else zden w 999 322 30 [zA 13 32 209, zI x1, zI x2, zI x3, zI R, zI 0] [] σ' := by
      intro σ' a b c
      refine (eX12_judge w 998 x1 x2 x3 σ').trans ?_
      rw [s_218 w (by decide) x1 a, Option.bind_some]
      dsimp only
      rw [zt_if, if_pos ⟨h1.1, b⟩, s_307 w (by decide), Option.bind_some]
      dsimp only
      rw [zt_if, if_pos h2, s_213, Option.bind_some]
      dsimp only
      rw [zt_if, if_pos h3, t2 σ' c, Option.bind_some]
    rcases t3 with rfl | t3
    · obtain ⟨u1, u2, u3⟩ := t4 rfl
      have g := hI.2.2.2.2.2.1 x2 h2.1 h2.2
      rw [if_pos rfl] at hA
      obtain ⟨σ1, k1, k2, k3, k4, k5⟩ := l_183 w (x1 := x1) (s := x2) (n := x3) (E := fun j => σ 228 (40 * x2 + j)) h2 h3.2 h1 u3 x3.toNat 0 (zI 0) zU σ (by decide) (by omega) hI rfl rfl u1 (fun j x y => g.2.2 j x y)
      have e2 := l_322 w (d := 998) (by decide) (σ := σ1) (x1 := x1) (s := x2) (n := x3) (E := fun j => σ 228 (40 * x2 + j)) (N := σ 209 1) h2 h3.2 h1 u3 (by rw [k3]; exact hI.2.1.1) (fun j _ _ => k5 228 _ (by decide)) x3.toNat 0 (zI 0) (by decide) (by omega)
      rw [k3] at e2
      refine ⟨_, σ1, σ1, hA.trans k1, ?_, k2⟩
      rw [hB σ1 (by rw [k4]; exact ⟨hI.2.1.1.1, hI.2.1.1.2.1⟩) (by rw [k4]; exact h1.2) k5, if_neg (by decide)]
      exact e2
    · rw [if_neg (by omega), s_194 w 998 t3] at hA
      refine yop R (zrA σ R) (zrB (zrA σ R) R) hA ?_ (zref0 hI)
      have n1 : zrA σ R 209 1 = σ 209 1 := zup_f (by omega)
      rw [hB (zrA σ R) (by rw [n1]; exact ⟨hI.2.1.1.1, hI.2.1.1.2.1⟩) (by rw [n1]; exact h1.2) (fun a k u => zup_f (by omega)), if_pos (by omega), s_214 w 998 t3]
      rfl
  · refine yop (-62) (zrA σ (-62)) (zrB (zrA σ (-62)) (-62)) ((eX11_judge w 998 x1 x2 x3 σ).trans ?_) ((eX12_judge w 998 x1 x2 x3 _).trans ?_) (zref0 hI)
    · rw [yA1 w hI, Option.bind_some]
      dsimp only
      rw [zt_if]
      by_cases u0 : 0 ≤ x1 ∧ x1 < σ 209 1
      · rw [if_pos (by omega)]
        rw [s_201, Option.bind_some]
        dsimp only
        rw [zt_if]
        by_cases u1 : 0 ≤ x2 ∧ x2 < 8
        · rw [if_pos (by omega)]
          rw [s_200, Option.bind_some]
          dsimp only
          rw [zt_if]
          rw [if_neg (fun u => h ⟨u0, u1, (by omega)⟩)]
          exact ybA w σ
        · rw [if_neg (by omega)]; exact ybA w σ
      · rw [if_neg (by omega)]; exact ybA w σ
    · rw [yB1' w hI, Option.bind_some]
      dsimp only
      rw [zt_if]
      by_cases u0 : 0 ≤ x1 ∧ x1 < σ 209 1
      · rw [if_pos (by omega)]
        rw [s_307 w (by decide), Option.bind_some]
        dsimp only
        rw [zt_if]
        by_cases u1 : 0 ≤ x2 ∧ x2 < 8
        · rw [if_pos (by omega)]
          rw [s_213, Option.bind_some]
          dsimp only
          rw [zt_if]
          rw [if_neg (fun u => h ⟨u0, u1, (by omega)⟩)]
          exact ybB w _
        · rw [if_neg (by omega)]; exact ybB w _
      · rw [if_neg (by omega)]; exact ybB w _
end
