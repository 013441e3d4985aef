section
/-! Which places are in a shape, as both find them -/
theorem s_37 (w : zW) {d : Nat} (hd : 36 ≤ d) {s : Int} {σ : zMem} (hI : zInv σ) (h0 : 0 ≤ s) (h1 : s < σ 209 1) :
    ∃ σ', zcall w d 37 [zA 4 5 85, zA 10 8 2, zI s] σ = some (121 + 2 * s, σ') ∧ zPS σ' (122 + 2 * s) (zns (σ 210) s) ∧ σ' 87 s = zlkN (σ 210) s 4 0 0 0 ∧ zInv σ'
      ∧ ∀ c k, (c ≠ 87 ∨ k ≠ s) → c ≠ 122 + 2 * s → ¬ (91 ≤ c ∧ c ≤ 120) → σ' c k = σ c k := by
  obtain ⟨d, rfl⟩ : ∃ e, d = e + 1 := ⟨d - 1, by omega⟩
  have hT := hI.2.1.1
  have hTb := hI.2.1.2
  have hCa := hI.2.2.1
  have h24 : s < 24 := by have := hT.2.1; omega
  obtain ⟨r1, r2⟩ := yr_86 w (s := s) ⟨h0, h24⟩
  have zb := zlk_b (σ 210) s 4 0 0 0
  rw [eX3_placesOf, if_neg (by omega), if_pos h24, if_pos ⟨h0, h24⟩, r1]
  by_cases c : σ 87 s = 0
  · have e52 := s_52 w d (a := 121 + 2 * s) (by rw [r2]; omega) σ
    rw [r2] at e52
    generalize hσ0 : ywm (122 + 2 * s) (fun _ => 0) 0 σ = σ0 at *
    have f0 : ∀ c k, c ≠ 122 + 2 * s → σ0 c k = σ c k := fun c k h => by rw [← hσ0]; exact ywm_f (by omega)
    have S4 : yS 4 = 4681 := rfl
    have P4 : (2 : Int) ^ 4 = 16 := rfl
    obtain ⟨σ1, e1, n1, b1, g1⟩ := s_39 w hT h0 h1 4 (by decide) d 0 0 0 σ0 (by omega) (by rw [P4]; decide) (by rw [P4]; decide) (by rw [P4]; decide) (zTb_fr (fun c k p q => f0 c k (by omega)) hTb) (by rw [f0 _ _ (by omega)]; omega) (by rw [f0 _ _ (by omega), c, S4]; decide)
    rw [P4] at e1 b1
    rw [f0 _ _ (by omega), c, Int.zero_add] at n1
    have F1 : ∀ c k, (c ≠ 87 ∨ k ≠ s) → c ≠ 122 + 2 * s → ¬ (91 ≤ c ∧ c ≤ 120) → σ1 c k = σ c k := fun c k u v t => (g1 c k u v t).trans (f0 c k v)
    have Pz : zPS σ1 (122 + 2 * s) (zns (σ 210) s) := by
      intro p p0 p1
      have h := b1 p p0 p1
      have z0 : ¬ zbit σ0 (122 + 2 * s) p = true := by
        rw [← hσ0, zbit_wm ⟨p0, p1⟩]
        show ¬ (zu64 0).testBit _ = true
        have : zu64 0 = 0 := rfl
        rw [this, Nat.zero_testBit]
        exact Bool.false_ne_true
      have yy : yic 16 0 0 0 p := by unfold yic; omega
      rw [Bool.eq_iff_iff, h]
      exact ⟨fun u => (u.resolve_left z0).2, fun u => Or.inr ⟨yy, u⟩⟩
    refine ⟨σ1, ?_, Pz, n1, ?_, F1⟩
    · rw [if_pos c, if_pos ⟨h0, h24⟩, e52, Option.bind_some]
      dsimp only
      have : zcall w d 39 [zA 4 5 85, zA 10 8 2, zI s, zI 0, zI 16] σ0 = some (0, σ1) := e1
      rw [this, Option.bind_some, if_pos ⟨h0, h24⟩]
    · have E : σ1 210 = σ 210 := funext fun k => F1 _ _ (by omega) (by omega) (by omega)
      have n9 : σ1 209 1 = σ 209 1 := F1 _ _ (by omega) (by omega) (by omega)
      obtain ⟨t0, t1, t2, t3, t4, t5, t6, t7⟩ := hI
      refine ⟨(F1 _ _ (by omega) (by omega) (by omega)).trans t0, zI_T_fr (fun a k q => F1 _ _ (by unfold zsT at q; omega) (by unfold zsT at q; omega) (by unfold zsT at q; omega)) t1, ?_,
        zI_K_fr (fun a k q => F1 _ _ (by unfold zsK at q; omega) (by unfold zsK at q; omega) (by unfold zsK at q; omega)) t3,
        zI_B_fr (fun a k q => F1 _ _ (by unfold zsB at q; omega) (by unfold zsB at q; omega) (by unfold zsB at q; omega)) t4,
        zI_S_fr (fun a k q => F1 _ _ (by unfold zsS at q; omega) (by unfold zsS at q; omega) (by unfold zsS at q; omega)) t5,
        zI_R_fr (fun a k q => F1 _ _ (by unfold zsR at q; omega) (by unfold zsR at q; omega) (by unfold zsR at q; omega)) t6,
        zI_P_fr (fun a k q => F1 _ _ (by unfold zsP at q; omega) (by unfold zsP at q; omega) (by unfold zsP at q; omega)) t7⟩
      rw [E, n9]
      intro i i0 i1
      by_cases hi : i = s
      · rw [hi]; exact Or.inr ⟨n1, Pz⟩
      · rw [F1 87 i (by omega) (by omega) (by omega)]
        rcases t2 i i0 i1 with u | u
        · exact Or.inl u
        · exact Or.inr ⟨u.1, zPS_fr (fun k => F1 _ _ (by omega) (by omega) (by omega)) u.2⟩
  · rw [if_neg c, if_pos ⟨h0, h24⟩]
    rcases hCa s h0 h1 with u | u
    · exact absurd u c
    · exact ⟨σ, rfl, u.2, u.1, hI, fun _ _ _ _ _ => rfl⟩
theorem s_198 (w : zW) {d : Nat} (hd : 37 ≤ d) {s : Int} {σ : zMem} (hI : zInv σ) (h0 : 0 ≤ s) (h1 : s < σ 209 1) :
    ∃ σ', zcall w d 198 [zA 12 16 1, zI s] σ = some (121 + 2 * s, σ') ∧ zPS σ' (122 + 2 * s) (zns (σ 210) s) ∧ zInv σ' ∧ σ' 210 = σ 210 ∧ σ' 209 1 = σ 209 1
      ∧ ∀ c k, (c ≠ 87 ∨ k ≠ s) → c ≠ 122 + 2 * s → ¬ (91 ≤ c ∧ c ≤ 120) → σ' c k = σ c k := by
  obtain ⟨d, rfl⟩ : ∃ e, d = e + 1 := ⟨d - 1, by omega⟩
  obtain ⟨σ', e, p, -, i, f⟩ := s_37 w (d := d) (by omega) hI h0 h1
  have h24 := hI.2.1.1.2.1
  rw [eX11_placesOf, e]
  exact ⟨σ', rfl, p, i, funext fun k => f _ _ (by omega) (by omega) (by omega), f _ _ (by omega) (by omega) (by omega), f⟩
theorem s_248 (w : zW) {d : Nat} (hd : 20 ≤ d) {s p n : Int} {σ : zMem} (hT : zWF (σ 210) n) (h0 : 0 ≤ s) (h1 : s < n) (hp : 0 ≤ p ∧ p < 4096) : zcall w d 248 [zA 13 32 209, zI s, zI p] σ = some (zt (zns (σ 210) s p = true), σ) := by
  obtain ⟨d, rfl⟩ : ∃ e, d = e + 1 := ⟨d - 1, by omega⟩
  have g := (hT.2.2 s h0 h1).2
  have e := s_219 w (n := n) 7 d s (p / 256) (p / 16 % 16) (p % 16) σ hT (by omega) h0 h1 (by omega) (by omega) (by omega) (by omega)
  rw [eX12_isInside, s_243, Option.bind_some]
  dsimp only
  rw [s_244 w d hp, Option.bind_some]
  dsimp only
  rw [s_245 w d hp, Option.bind_some]
  dsimp only
  rw [e, Option.bind_some]
  dsimp only
  rw [zcmp_gt, zt]
  by_cases c : 0 < zwd (σ 210) 7 s (p / 256) (p / 16 % 16) (p % 16)
  · rw [if_pos c, if_neg (by unfold zns; rw [decide_eq_true_eq]; omega)]
  · rw [if_neg c, if_pos (by unfold zns; rw [decide_eq_true_eq]; omega)]
theorem yr_214 (w : zW) {o : Int} (h : 0 ≤ o ∧ o < 4) : zR w 214 o = 215 + o := by
  have : o = 0 ∨ o = 1 ∨ o = 2 ∨ o = 3 := by omega
  rcases this with rfl | rfl | rfl | rfl <;> rfl
theorem l_249 (w : zW) {d : Nat} (hd : 20 ≤ d) {s o n : Int} {T : Int → Int} (ho : 0 ≤ o ∧ o < 4) (hT : zWF T n) (h0 : 0 ≤ s) (h1 : s < n) : ∀ (m k : Nat) (σ : zMem), k + m = 4096 → σ 210 = T →
    zden w (d + 1) 249 4 [zA 13 32 209, zI o, zI s, zI (yct (zns T s) k : Nat), zI (k : Int)] [] σ = some (((yct (zns T s) 4096 : Nat) : Int), yfm (215 + o) (fun p => zt (zns T s p = true)) k 4096 σ) := by
  have ro := yr_214 w ho
  intro m
  induction m with
  | zero =>
    intro k σ h hs
    have : k = 4096 := by omega
    subst this
    have e := yfm_e (o := 215 + o) (f := fun p => zt (zns T s p = true)) (hi := 4096) (σ := σ)
    rw [hX12_fills_4, if_neg (by omega)]
    exact congrArg _ (congrArg _ e.symm)
  | succ m ih =>
    intro k σ h hs
    have h2 := yct_le (zns T s) k
    have e0 := s_248 w (d := d) (by omega) (σ := σ) (s := s) (p := (k : Int)) (n := n) (by rw [hs]; exact hT) h0 h1 (by omega)
    rw [hs] at e0
    have e1 : zar 0 (k : Int) 1 = ((k + 1 : Nat) : Int) := by rw [za_0, zw32_i (by omega)]; omega
    have e2 : zt (zns T s k = true) % 2 = zt (zns T s k = true) := by unfold zt; split <;> rfl
    have ih2 := ih (k + 1) (zup σ (215 + o) k (zt (zns T s k = true))) (by omega) ((funext fun j => zup_f (by omega)).trans hs)
    have e3 : yfm (215 + o) (fun p => zt (zns T s p = true)) ((k + 1 : Nat) : Int) 4096 (zup σ (215 + o) k (zt (zns T s k = true))) = yfm (215 + o) (fun p => zt (zns T s p = true)) k 4096 σ := by
      rw [show ((k + 1 : Nat) : Int) = (k : Int) + 1 by omega]
      exact yfm_up (by omega) (by omega) rfl
    rw [e3, yct_s] at ih2
    rw [hX12_fills_4, if_pos (by omega), if_pos (by omega), e0, Option.bind_some]
    dsimp only
    rw [if_pos (by omega), if_pos (by omega), if_pos (by omega), ro, e2, zup_t ⟨rfl, rfl, by omega⟩, zt_if, e1, za_0, za_0]
    by_cases c : zns T s k = true
    · rw [if_pos c] at ih2
      rw [if_pos c, zw32_i (z := (yct (zns T s) k : Int) + 1) (by omega)]
      exact ih2
    · rw [if_neg c] at ih2
      rw [if_neg c, zw32_i (z := (yct (zns T s) k : Int) + 0) (by omega)]
      exact ih2
theorem s_249 (w : zW) {d : Nat} (hd : 21 ≤ d) {s o n : Int} {σ : zMem} (ho : 0 ≤ o ∧ o < 4) (hT : zWF (σ 210) n) (h0 : 0 ≤ s) (h1 : s < n) :
    zcall w d 249 [zA 13 32 209, zI o, zI s] σ = some (((yct (zns (σ 210) s) 4096 : Nat) : Int), yfm (215 + o) (fun p => zt (zns (σ 210) s p = true)) 0 4096 σ) := by
  obtain ⟨d, rfl⟩ : ∃ e, d = e + 1 := ⟨d - 1, by omega⟩
  rw [eX12_fills]
  exact l_249 w (by omega) ho hT h0 h1 4096 0 σ (by omega) rfl
/-- what the sets and the bounds of the reference are counts for nothing -/
theorem yfm_alk {o : Int} {f : Int → Int} {lo hi : Int} {σ : zMem} (ho : 212 ≤ o ∧ o ≤ 222) : zalk σ (yfm o f lo hi σ) := zalk_s fun a k _ _ _ _ h => yfm_f (by omega)
end
