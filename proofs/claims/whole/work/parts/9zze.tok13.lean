section
/-! Call 9, shape: from the first byte to the last -/
/-- rows behind the table count for nothing -/
theorem zInv_D {σ σ' : zMem} (t : zInv σ) (h : ∀ a k, zsX a k ∨ zsR a k → ¬ (3 ≤ a ∧ a ≤ 9) → σ' a k = σ a k) (h8 : ∀ a k, 3 ≤ a → a ≤ 8 → 0 ≤ k → k < σ 209 1 → σ' a k = σ a k) (h9 : ∀ k, 0 ≤ k → k < 6 * σ 209 1 → σ' 9 k = σ 9 k) : zInv σ' := by
  obtain ⟨t0, ⟨tT, tTb⟩, t2, t3, t4, t5, t6, t7⟩ := t
  have n1 : σ' 209 1 = σ 209 1 := h _ _ (by unfold zsX zsT; omega) (by decide)
  have T1 : σ' 210 = σ 210 := funext fun k => h _ _ (by unfold zsX zsT; omega) (by decide)
  refine ⟨(h _ _ (by unfold zsX; omega) (by decide)).trans t0, ⟨by rw [T1, n1]; exact tT, ?_⟩, zCa_fr tT.2.1 (fun a k q => h _ _ (Or.inl (Or.inr (Or.inr (Or.inl q)))) (by unfold zsC at q; omega)) t2, zI_K_fr (fun a k q => h _ _ (Or.inl (Or.inr (Or.inr (Or.inr (Or.inl q))))) (by unfold zsK at q; omega)) t3, zI_B_fr (fun a k q => h _ _ (Or.inl (Or.inr (Or.inr (Or.inr (Or.inr (Or.inl q)))))) (by unfold zsB at q; omega)) t4, zI_S_fr (fun a k q => h _ _ (Or.inl (Or.inr (Or.inr (Or.inr (Or.inr (Or.inr (Or.inl q))))))) (by unfold zsS at q; omega)) t5, zI_R_fr (fun a k q => h _ _ (Or.inr q) (by unfold zsR at q; omega)) t6, zI_P_fr (fun a k q => h _ _ (Or.inl (Or.inr (Or.inr (Or.inr (Or.inr (Or.inr (Or.inr q))))))) (by unfold zsP at q; omega)) t7⟩
  rw [T1, n1]
  exact yTb_lo tT.2.1 (h _ _ (by unfold zsX zsT; omega) (by decide)) h8 h9 tTb
theorem s_160r (w : zW) {d : Nat} (hd : 2 ≤ d) {n r : Int} {σ : zMem} (hn : 0 ≤ n ∧ n ≤ 24) (hr : 0 ≤ r ∧ r < 100) (e : σ 2 7 = n) : zcall w d 160 [zA 12 16 1, zI r] σ = some (n + r - 1, zup (yfm 87 (fun _ => 0) n 24 σ) 2 7 (n + r)) := by
  obtain ⟨d, rfl⟩ : ∃ e, d = e + 1 := ⟨d - 1, by omega⟩
  have e2 : yfm 87 (fun _ => 0) n 24 σ 2 7 = n := by rw [yfm_f (by omega)]; exact e
  have e3 : zar 0 n r = n + r := by rw [za_0, zw32_i (by omega)]
  have e4 : zar 1 (n + r) 1 = n + r - 1 := by rw [za_1, zw32_i (by omega)]
  rw [eX11_added, s_110, Option.bind_some]
  dsimp only
  rw [e, s_36 w (by omega) hn, Option.bind_some]
  dsimp only
  rw [s_110, Option.bind_some]
  dsimp only
  rw [e2, e3, eX9_resize, Option.bind_some]
  dsimp only
  rw [s_110, Option.bind_some]
  dsimp only
  rw [zup_t ⟨rfl, rfl, by decide⟩, e4]
theorem q_run (w : zW) {n b : Int} {B : Int → Int} (hB : ytB n B) (hb : 0 ≤ b ∧ b ≤ 24) {d e : Nat} (hd : 8 ≤ d) (he : 300 ≤ e) {σA σB : zMem} (S : qS n B b σA σB 0 0 0) :
    (∃ f v σA' σB', 0 ≤ f ∧ qL w d σA 1 0 = some (f, σA') ∧ zcall w e 304 [zA 13 32 209, zI 0] σB = some (v, σB') ∧ (v < 0 ∨ σB' 209 14 ≠ 0) ∧ σB' 209 13 = f ∧ qfA b 0 0 σA σA' ∧ qfB 0 0 σB σB')
    ∨ (∃ r σA' σB', 1 ≤ r ∧ r ≤ 41 ∧ qL w d σA 1 0 = some (-1, σA') ∧ zcall w e 304 [zA 13 32 209, zI 0] σB = some (r - 1, σB') ∧ σB' 209 14 = 0 ∧ σA' 78 4 = r ∧ σB' 209 17 = r ∧ (∀ s, 0 ≤ s → s < r → qrA b σA' (b + s) ∧ qrB b σA' σB' s) ∧ qfA b 0 0 σA σA' ∧ qfB 0 0 σB σB') := by
  have hn := hB.2.1
  have hn0 := hB.1
  rcases q_sim w hB hb hd (n.toNat + 1) e 0 0 0 0 σA σB (by omega) (by omega) S (by decide) (by decide) (by decide) (by decide) hn0 with ⟨σA', σB', c1, c2, c3, c4, c5⟩ | ⟨a', r', i', v2, v5, v6, v7, σA', σB', c1, c2, S', c3, c4, c5, c6, c7, c8, c9⟩
  · exact Or.inl ⟨_, -1, σA', σB', c3, c1, c2, Or.inl (by decide), rfl, c4, c5⟩
  · obtain ⟨tC, e2, e3, e4, e5, e27, tk, e17, rows⟩ := S'
    obtain ⟨tR, t13, u0, u1, u2, u3, u4⟩ := tk
    have yb := ysk_b hB c5
    have et := e_top w (d := d) (by omega) (a := a') (la := b + r' - 1) (t := 0 - 1) (v2 := v2) (v5 := v5) (v6 := v6) (v7 := v7) hB tC e2 (by omega) (by decide)
    have h0 := c1.trans (qE_0 w (i := i') et)
    by_cases c : ysk n B a' < n
    · rw [if_pos c, zup_t ⟨rfl, rfl, by decide⟩] at h0
      have nz : σB' 209 14 ≠ 0 := by
        have bb := hB.2.2.2 (ysk n B a') (by omega) c
        by_cases w1 : 97 ≤ B (ysk n B a') ∧ B (ysk n B a') ≤ 122
        · have := (u1 w1).1; omega
        · by_cases w2 : 48 ≤ B (ysk n B a') ∧ B (ysk n B a') ≤ 57
          · have := (u2 w2).1; omega
          · by_cases w3 : B (ysk n B a') = 45 ∨ B (ysk n B a') = 40 ∨ B (ysk n B a') = 44 ∨ B (ysk n B a') = 41
            · have := (u3 w3).1; omega
            · have := (u4 ⟨by omega, w1, w2, w3⟩).1; omega
      exact Or.inl ⟨_, r' - 1, _, σB', by omega, h0, c2, Or.inr nz, t13, fun c t h1 h2 h3 h4 h5 h6 => by rw [zup_f (by omega), zup_f (by omega)]; exact c8 c t h1 h2 h3 h4 h5 h6, c9⟩
    · rw [if_neg c, zup_f (by omega), e3] at h0
      have hm : B (ysk n B a') = -1 := hB.2.2.1 _ (by omega)
      have f : ∀ c t, (c ≠ 78 ∨ t ≠ 2) → zup σA' 78 2 (ysk n B a') c t = σA' c t := fun c t u => zup_f (by omega)
      refine Or.inr ⟨r', _, σB', by omega, by omega, h0, c2, (u0 hm).1, (f _ _ (by omega)).trans e4, e17, fun s s0 s1 => ?_, fun c t h1 h2 h3 h4 h5 h6 => (f c t (by omega)).trans (c8 c t h1 h2 h3 h4 h5 h6), c9⟩
      obtain ⟨ra, rb⟩ := rows s s0 s1
      exact ⟨qrA_f hb.1 (by omega) (fun a t _ _ _ _ => f a t (by omega)) (fun t _ => f _ _ (by omega)) ra, qrB_f hb.1 s0 (fun a t _ _ _ _ => f a t (by omega)) (fun t _ => f _ _ (by omega)) (fun t _ => rfl) rb⟩
end
