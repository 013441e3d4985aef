section
/-! Call 9, shape: numbers, both programs side by side -/
theorem zno_11 {k i : Int} (hk : (3 ≤ k ∧ k ≤ 5) ∨ (8 ≤ k ∧ k ≤ 17)) (h0 : 0 ≤ i) (h : i < zno k) : (3 ≤ k ∧ k ≤ 5) ∨ (11 ≤ k ∧ k ≤ 17) := by
  have : ¬ (8 ≤ k ∧ k ≤ 10) := fun u => by
    have : zno k = 0 := by unfold zno; rw [if_neg (by omega), if_neg (by omega), if_neg (by omega), if_pos (by omega)]
    omega
  omega
theorem zahead_c {k i : Int} {N N' : Int → Int} (h0 : 0 < i) (h : ∀ j, 0 ≤ j → j < i → N' j = N j) : zahead k i N' = zahead k i N := by
  unfold zahead
  split
  · exact h _ (by omega) (by omega)
  · exact h _ (by omega) (by omega)
theorem q_num (w : zW) {d e : Nat} (hd : 3 ≤ d) (he : 6 ≤ e) {n k x2 : Int} {B : Int → Int} (hB : ytB n B) (hk : (3 ≤ k ∧ k ≤ 5) ∨ (8 ≤ k ∧ k ≤ 17)) : ∀ (m : Nat) (i a : Int) (σA σB : zMem) (v4 v5 v6 : zV), 0 ≤ i → i + m = zno k → 0 ≤ a → a ≤ n → ytC σA n B → σA 78 2 = a → ytk σB n B a → (∀ j, 0 ≤ j → j < i → σA 84 j = σB 224 (759 + j)) → (∀ j, 0 ≤ j → j < i → zmay k j (σA 84 j) (zahead k j (σA 84))) →
    (∃ a' σA' σB', zden w (d + 1) 69 17 [zA 7 11 78, zA 10 8 2, zI x2, zI k, zI i] [] σA = zden w (d + 1) 69 17 [zA 7 11 78, zA 10 8 2, zI x2, zI k, zI (zno k)] [] σA' ∧ zden w (e + 1) 303 2 [zA 13 32 209, zI k, zI 759, zI i, v4, v5, v6] [] σB = some (1, σB') ∧ a + m ≤ a' ∧ a' ≤ n ∧ ytC σA' n B ∧ σA' 78 2 = a' ∧ ytk σB' n B a' ∧ (∀ j, 0 ≤ j → j < zno k → σA' 84 j = σB' 224 (759 + j)) ∧ zNV k (σA' 84)
      ∧ (∀ c t, c ≠ 84 → (c ≠ 78 ∨ t ≠ 2) → σA' c t = σA c t) ∧ ∀ c t, (c ≠ 209 ∨ t < 12 ∨ 15 < t) → (c ≠ 224 ∨ t < 759 ∨ 765 ≤ t) → σB' c t = σB c t)
    ∨ (∃ σA' σB', zden w (d + 1) 69 17 [zA 7 11 78, zA 10 8 2, zI x2, zI k, zI i] [] σA = some (0, σA') ∧ zden w (e + 1) 303 2 [zA 13 32 209, zI k, zI 759, zI i, v4, v5, v6] [] σB = some (0, σB') ∧ σA' 78 3 = σB' 209 13 ∧ 0 ≤ σB' 209 13
      ∧ (∀ c t, c ≠ 84 → (c ≠ 78 ∨ (t ≠ 2 ∧ t ≠ 3)) → σA' c t = σA c t) ∧ ∀ c t, (c ≠ 209 ∨ t < 12 ∨ 15 < t) → (c ≠ 224 ∨ t < 759 ∨ 765 ≤ t) → σB' c t = σB c t) := by
  have hz6 := zno_b6 k
  intro m
  induction m with
  | zero =>
    intro i a σA σB v4 v5 v6 h0 h ha han tC e2 tk ag ok
    have : i = zno k := by omega
    subst this
    refine Or.inl ⟨a, σA, σB, rfl, ?_, by omega, han, tC, e2, tk, ag, ok, fun _ _ _ _ => rfl, fun _ _ _ _ => rfl⟩
    rw [hX12_areRead_2, s_276, Option.bind_some]
    dsimp only
    rw [if_neg (by omega)]
  | succ m ih =>
    intro i a σA σB v4 v5 v6 h0 h ha han tC e2 tk ag ok
    have hk' := zno_11 hk h0 (by omega)
    have z3 : zar 0 i 1 = i + 1 := by rw [za_0, zw32_i (by omega)]
    have nb := qno_b hB (k := k) (i := i) ha han
    /- whether it may be is the same question -/
    have fe : zmay k i (qnov n B k i a) (zahead k i (σA 84)) ↔ zmay k i (qnov n B k i a) (zahead k i (fun j => σB 224 (759 + j))) := by
      by_cases i0 : i = 0
      · subst i0; exact ⟨zmay_00 hk', zmay_00 hk'⟩
      · rw [zahead_c (N' := σA 84) (N := fun j => σB 224 (759 + j)) (by omega) (fun j x y => ag j x y)]
    have sA := s_79 w (d := d) (by omega) hB tC e2 ha han hk' h0 (by omega) (f := zahead k i (σA 84)) rfl (fun k4 i3 => by
      have := ok (i - 3) (by omega) (by omega)
      subst k4
      have i6 : i < 6 := by omega
      unfold zmay at this
      rw [if_neg (by decide), if_pos rfl, if_pos (by omega)] at this
      exact this.1)
    have sB := s_303 w (d := e) he hB ha han tk hk' h0 (by omega) (v4 := v4) (v5 := v5) (v6 := v6) rfl
    have eA : zden w (d + 1) 69 17 [zA 7 11 78, zA 10 8 2, zI x2, zI k, zI i] [] σA = (zcall w d 79 [zA 7 11 78, zI k, zI i] σA).bind fun r2 => if r2.1 = 0 then some (0, r2.2) else zden w (d + 1) 69 17 [zA 7 11 78, zA 10 8 2, zI x2, zI k, zI (i + 1)] [] r2.2 := by
      rw [hX6_begin_17, s_29 w d hk, Option.bind_some]
      dsimp only
      rw [if_pos (by omega), z3]
    rcases sA with ⟨qA, kA⟩ | ⟨qA, σA1, kA, pA, fA⟩
    · rcases sB with ⟨qB, w4, w5, w6, σB1, kB, tB, vB, fB⟩ | ⟨qB, -⟩
      · obtain ⟨σA1, hσA1⟩ : ∃ σA1, σA1 = zup (zup σA 78 2 (qno2 n B k i a)) 84 i (qnov n B k i a) := ⟨_, rfl⟩
        rw [← hσA1] at kA
        have fA : ∀ c t, (c ≠ 84 ∨ t ≠ i) → (c ≠ 78 ∨ t ≠ 2) → σA1 c t = σA c t := fun c t x y => by rw [hσA1, zup_f (by omega), zup_f (by omega)]
        have vA : σA1 84 i = qnov n B k i a := by rw [hσA1]; exact zup_t ⟨rfl, rfl, by decide⟩
        have lo : ∀ j, 0 ≤ j → j < i → σA1 84 j = σA 84 j := fun j x y => fA _ _ (by omega) (by omega)
        have ih' := ih (i + 1) (qno2 n B k i a) σA1 σB1 w4 w5 w6 (by omega) (by omega) (by omega) (by omega) (ytC_f (fA _ _ (by omega) (by omega)) (fun t => fA _ _ (by omega) (by omega)) tC) (by rw [hσA1, zup_f (by omega)]; exact zup_t ⟨rfl, rfl, by decide⟩) tB (fun j x y => by
          by_cases c : j = i
          · rw [c, vA, vB]
          · rw [lo j x (by omega), fB _ _ (by omega) (by omega)]; exact ag j x (by omega)) (fun j x y => by
          by_cases c : j = i
          · subst c
            rw [vA]
            by_cases j0 : j = 0
            · subst j0; exact zmay_00 hk' qA.2.2
            · rw [zahead_c (N' := σA1 84) (N := σA 84) (by omega) lo]; exact qA.2.2
          · rw [lo j x (by omega)]
            by_cases j0 : j = 0
            · subst j0; exact zmay_00 hk' (ok 0 x (by omega))
            · rw [zahead_c (N' := σA1 84) (N := σA 84) (by omega) (fun t u v => lo t u (by omega))]; exact ok j x (by omega))
        rw [eA, kA, Option.bind_some, kB]
        dsimp only
        rw [if_neg (by decide)]
        rcases ih' with ⟨a', σA', σB', m1, m2, m3, m4, m5, m6, m7, m8, m9, mA, mB⟩ | ⟨σA', σB', m1, m2, m3, m4, mA, mB⟩
        · have := qA.1
          exact Or.inl ⟨a', σA', σB', m1, m2, by omega, m4, m5, m6, m7, m8, m9, fun c t x y => (mA c t x y).trans (fA c t (by omega) y), fun c t x y => (mB c t x y).trans (fB c t x (by omega))⟩
        · exact Or.inr ⟨σA', σB', m1, m2, m3, m4, fun c t x y => (mA c t x y).trans (fA c t (by omega) (by omega)), fun c t x y => (mB c t x y).trans (fB c t x (by omega))⟩
      · exact absurd ⟨qA.1, qA.2.1, fe.1 qA.2.2⟩ qB
    · rcases sB with ⟨qB, -⟩ | ⟨qB, σB1, kB, pB, fB⟩
      · exact absurd ⟨qB.1, qB.2.1, fe.2 qB.2.2⟩ qA
      · rw [eA, kA, Option.bind_some, kB]
        dsimp only
        rw [if_pos rfl]
        exact Or.inr ⟨σA1, σB1, rfl, rfl, pA.trans pB.symm, by rw [pB]; omega, fA, fun c t x y => fB c t x⟩
end
