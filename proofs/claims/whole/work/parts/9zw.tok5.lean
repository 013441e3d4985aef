section
/-! Call 9, shape: numbers of the reference -/
theorem s_303 (w : zW) {d : Nat} (hd : 6 ≤ d) {n a k i : Int} {B : Int → Int} {σ : zMem} {v4 v5 v6 : zV} (hB : ytB n B) (h0 : 0 ≤ a) (ha : a ≤ n) (tk : ytk σ n B a) (hk : (3 ≤ k ∧ k ≤ 5) ∨ (11 ≤ k ∧ k ≤ 17)) (hi : 0 ≤ i) (hiz : i < zno k) {X : Option (Int × zMem)} (hX : X = zden w (d + 1) 303 2 [zA 13 32 209, zI k, zI 759, zI i, v4, v5, v6] [] σ) :
    ((qnok n B k i a (zahead k i (fun j => σ 224 (759 + j))) ∧ ∃ v4 v5 v6 σ', X = zden w (d + 1) 303 2 [zA 13 32 209, zI k, zI 759, zI (i + 1), v4, v5, v6] [] σ' ∧ ytk σ' n B (qno2 n B k i a) ∧ σ' 224 (759 + i) = qnov n B k i a ∧ ∀ c t, (c ≠ 209 ∨ t < 12 ∨ 15 < t) → (c ≠ 224 ∨ t ≠ 759 + i) → σ' c t = σ c t)
      ∨ (¬ qnok n B k i a (zahead k i (fun j => σ 224 (759 + j))) ∧ ∃ σ', X = some (0, σ') ∧ σ' 209 13 = qno1 n B k i a ∧ ∀ c t, (c ≠ 209 ∨ t < 12 ∨ 15 < t) → σ' c t = σ c t)) := by
  have hn := hB.2.1
  have hz6 := zno_b6 k
  have nb := qno_b hB (k := k) (i := i) h0 ha
  have z1 : zar 0 759 i = 759 + i := by rw [za_0, zw32_i (by omega)]
  have z2 : zar 1 (759 + i) 3 = 756 + i := by rw [za_1, zw32_i (by omega)]; omega
  have z3 : zar 0 i 1 = i + 1 := by rw [za_0, zw32_i (by omega)]
  have nA : zahead k i (fun j => σ 224 (759 + j)) = if k = 4 ∧ 3 ≤ i then σ 224 (756 + i) else σ 224 759 := by
    unfold zahead
    split
    · show σ 224 (759 + (i - 3)) = _
      congr 1; omega
    · rfl
  have core : ∀ (idx V fl : Int) (σ1 : zMem) (b : Int), 0 ≤ b → b ≤ n → 0 ≤ idx → idx < 770 → ytk σ1 n B b → ysk n B b = qno1 n B k i a → (∀ c t, (c ≠ 209 ∨ t < 12 ∨ 15 < t) → σ1 c t = σ c t) → zahead k i (fun j => σ 224 (759 + j)) = σ 224 idx → (σ1 209 14 = 2 → σ1 209 15 ≤ 999 → V = qnov n B k i a) → X = (if (0 : Int) ≤ idx ∧ idx < 770 then if (σ1 209 14) = 2 then if 999 < (σ1 209 15) then some (0, σ1) else (zcall w d 274 [zI k, zI i, zI V, zI (σ1 224 idx)] σ1).bind (fun r3 => if r3.1 = 0 then some (0, r3.2) else if (0 : Int) ≤ (zar 0 759 i) ∧ (zar 0 759 i) < 770 then (zcall w d 300 [zA 13 32 209] (zup r3.2 224 (zar 0 759 i) V)).bind (fun r4 => zden w (d + 1) 303 2 [zA 13 32 209, zI k, zI 759, zI (zar 0 i 1), zI fl, zI V, zI (σ1 224 idx)] [] r4.2) else none) else some (0, σ1) else none) → ((qnok n B k i a (zahead k i (fun j => σ 224 (759 + j))) ∧ ∃ v4 v5 v6 σ', X = zden w (d + 1) 303 2 [zA 13 32 209, zI k, zI 759, zI (i + 1), v4, v5, v6] [] σ' ∧ ytk σ' n B (qno2 n B k i a) ∧ σ' 224 (759 + i) = qnov n B k i a ∧ ∀ c t, (c ≠ 209 ∨ t < 12 ∨ 15 < t) → (c ≠ 224 ∨ t ≠ 759 + i) → σ' c t = σ c t)
      ∨ (¬ qnok n B k i a (zahead k i (fun j => σ 224 (759 + j))) ∧ ∃ σ', X = some (0, σ') ∧ σ' 209 13 = qno1 n B k i a ∧ ∀ c t, (c ≠ 209 ∨ t < 12 ∨ 15 < t) → σ' c t = σ c t)) := by
    intro idx V fl σ1 b hb0 hb hi0 hi1 t1 eb f1 ez hV hX
    obtain ⟨tR, t13, u0, u1, u2, u3, u4⟩ := id t1
    rw [eb] at t13 u0 u1 u2 u3 u4
    have e224 : σ1 224 idx = σ 224 idx := f1 _ _ (by omega)
    have flt : X = some (0, σ1) → ¬ qnok n B k i a (zahead k i (fun j => σ 224 (759 + j))) → ((qnok n B k i a (zahead k i (fun j => σ 224 (759 + j))) ∧ ∃ v4 v5 v6 σ', X = zden w (d + 1) 303 2 [zA 13 32 209, zI k, zI 759, zI (i + 1), v4, v5, v6] [] σ' ∧ ytk σ' n B (qno2 n B k i a) ∧ σ' 224 (759 + i) = qnov n B k i a ∧ ∀ c t, (c ≠ 209 ∨ t < 12 ∨ 15 < t) → (c ≠ 224 ∨ t ≠ 759 + i) → σ' c t = σ c t)
      ∨ (¬ qnok n B k i a (zahead k i (fun j => σ 224 (759 + j))) ∧ ∃ σ', X = some (0, σ') ∧ σ' 209 13 = qno1 n B k i a ∧ ∀ c t, (c ≠ 209 ∨ t < 12 ∨ 15 < t) → σ' c t = σ c t)) := fun p q => Or.inr ⟨q, σ1, p, t13, f1⟩
    rw [if_pos ⟨hi0, hi1⟩] at hX
    by_cases c1 : σ1 209 14 = 2
    · have dg : 48 ≤ B (qno1 n B k i a) ∧ B (qno1 n B k i a) ≤ 57 := Classical.byContradiction fun u => by
        by_cases w0 : B (qno1 n B k i a) = -1
        · have := (u0 w0).1; omega
        · by_cases w1 : 97 ≤ B (qno1 n B k i a) ∧ B (qno1 n B k i a) ≤ 122
          · have := (u1 w1).1; omega
          · by_cases w3 : B (qno1 n B k i a) = 45 ∨ B (qno1 n B k i a) = 40 ∨ B (qno1 n B k i a) = 44 ∨ B (qno1 n B k i a) = 41
            · have := (u3 w3).1; omega
            · have := (u4 ⟨w0, w1, u, w3⟩).1; omega
      obtain ⟨k14, k12, k15⟩ := u2 dg
      have e2 : ysc pdg n B (qno1 n B k i a) = qno2 n B k i a := rfl
      rw [e2] at k12 k15
      have lt : qno1 n B k i a < qno2 n B k i a := by
        have := ysc_t hB pdg_0 (pdg_i.2 dg)
        have lb := ysc_lt hB pdg_0 (pdg_i.2 dg)
        have := (ysc_b hB pdg_0 _ (qno1 n B k i a + 1) rfl).1
        omega
      have dgs := (ysc_b hB pdg_0 _ (qno1 n B k i a) rfl).2.2.2
      rw [e2] at dgs
      rw [if_pos c1] at hX
      by_cases c2 : qno2 n B k i a - qno1 n B k i a ≤ 3
      · have bd := ydgv_3 (B := B) (b := qno1 n B k i a) (j := (qno2 n B k i a - qno1 n B k i a).toNat) (by omega) (fun i x y => pdg_i.1 (dgs i x (by omega)))
        have e15 : σ1 209 15 = ydgv B (qno1 n B k i a) (qno2 n B k i a - qno1 n B k i a).toNat := by rw [k15]; unfold ydn; rw [if_pos c2]
        have hv := hV c1 (by omega)
        rw [if_neg (by omega), s_274 w (by omega) V _ hk, Option.bind_some] at hX
        dsimp only at hX
        rw [e224, ← ez, hv] at hX
        by_cases c3 : zmay k i (qnov n B k i a) (zahead k i (fun j => σ 224 (759 + j)))
        · have t' : ytR (zup σ1 224 (759 + i) (qnov n B k i a)) n B := ytR_f (zup_f (by omega)) (fun t => zup_f (by omega)) tR
          obtain ⟨σ2, m1, m2, m3⟩ := s_300 w (d := d) (by omega) hB t' (a := qno2 n B k i a) (by omega) (by omega) ((zup_f (by omega)).trans k12)
          rw [ytm_p c3, if_neg (by decide), z1, if_pos (by omega), m1, Option.bind_some] at hX
          dsimp only at hX
          rw [z3] at hX
          refine Or.inl ⟨⟨lt, c2, c3⟩, _, _, _, σ2, hX, m2, ?_, fun c t x y => (m3 c t x).trans ((zup_f (by omega)).trans (f1 c t x))⟩
          rw [m3 _ _ (by omega), zup_t ⟨rfl, rfl, by decide⟩]
        · rw [ytm_n c3, if_pos rfl] at hX
          exact flt hX (fun u => c3 u.2.2)
      · rw [if_pos (show 999 < σ1 209 15 by rw [k15]; unfold ydn; rw [if_neg c2]; decide)] at hX
        exact flt hX (fun u => c2 u.2.1)
    · rw [if_neg c1] at hX
      refine flt hX (fun u => ?_)
      have dg : ¬ (48 ≤ B (qno1 n B k i a) ∧ B (qno1 n B k i a) ≤ 57) := fun v => c1 (u2 v).1
      have : qno2 n B k i a = qno1 n B k i a := ysc_f (fun v => dg (pdg_i.1 v))
      have := u.1
      omega
  rw [hX12_areRead_2, s_276, Option.bind_some] at hX
  dsimp only at hX
  rw [if_pos hiz, s_302 w d i hk, Option.bind_some] at hX
  dsimp only at hX
  rw [zt_if] at hX
  have ix : ∀ (σ1 : zMem) (V fl : Int), X = (if k = 4 then if i < 3 then (if (0 : Int) ≤ 759 ∧ 759 < 770 then if (σ1 209 14) = 2 then if 999 < (σ1 209 15) then some (0, σ1) else (zcall w d 274 [zI k, zI i, zI V, zI (σ1 224 759)] σ1).bind (fun r3 => if r3.1 = 0 then some (0, r3.2) else if (0 : Int) ≤ (zar 0 759 i) ∧ (zar 0 759 i) < 770 then (zcall w d 300 [zA 13 32 209] (zup r3.2 224 (zar 0 759 i) V)).bind (fun r4 => zden w (d + 1) 303 2 [zA 13 32 209, zI k, zI 759, zI (zar 0 i 1), zI fl, zI V, zI (σ1 224 759)] [] r4.2) else none) else some (0, σ1) else none) else (if (0 : Int) ≤ (zar 1 (zar 0 759 i) 3) ∧ (zar 1 (zar 0 759 i) 3) < 770 then if (σ1 209 14) = 2 then if 999 < (σ1 209 15) then some (0, σ1) else (zcall w d 274 [zI k, zI i, zI V, zI (σ1 224 (zar 1 (zar 0 759 i) 3))] σ1).bind (fun r3 => if r3.1 = 0 then some (0, r3.2) else if (0 : Int) ≤ (zar 0 759 i) ∧ (zar 0 759 i) < 770 then (zcall w d 300 [zA 13 32 209] (zup r3.2 224 (zar 0 759 i) V)).bind (fun r4 => zden w (d + 1) 303 2 [zA 13 32 209, zI k, zI 759, zI (zar 0 i 1), zI fl, zI V, zI (σ1 224 (zar 1 (zar 0 759 i) 3))] [] r4.2) else none) else some (0, σ1) else none) else (if (0 : Int) ≤ 759 ∧ 759 < 770 then if (σ1 209 14) = 2 then if 999 < (σ1 209 15) then some (0, σ1) else (zcall w d 274 [zI k, zI i, zI V, zI (σ1 224 759)] σ1).bind (fun r3 => if r3.1 = 0 then some (0, r3.2) else if (0 : Int) ≤ (zar 0 759 i) ∧ (zar 0 759 i) < 770 then (zcall w d 300 [zA 13 32 209] (zup r3.2 224 (zar 0 759 i) V)).bind (fun r4 => zden w (d + 1) 303 2 [zA 13 32 209, zI k, zI 759, zI (zar 0 i 1), zI fl, zI V, zI (σ1 224 759)] [] r4.2) else none) else some (0, σ1) else none)) → ∀ b : Int, 0 ≤ b → b ≤ n → ytk σ1 n B b → ysk n B b = qno1 n B k i a → (∀ c t, (c ≠ 209 ∨ t < 12 ∨ 15 < t) → σ1 c t = σ c t) → (σ1 209 14 = 2 → σ1 209 15 ≤ 999 → V = qnov n B k i a) → ((qnok n B k i a (zahead k i (fun j => σ 224 (759 + j))) ∧ ∃ v4 v5 v6 σ', X = zden w (d + 1) 303 2 [zA 13 32 209, zI k, zI 759, zI (i + 1), v4, v5, v6] [] σ' ∧ ytk σ' n B (qno2 n B k i a) ∧ σ' 224 (759 + i) = qnov n B k i a ∧ ∀ c t, (c ≠ 209 ∨ t < 12 ∨ 15 < t) → (c ≠ 224 ∨ t ≠ 759 + i) → σ' c t = σ c t)
      ∨ (¬ qnok n B k i a (zahead k i (fun j => σ 224 (759 + j))) ∧ ∃ σ', X = some (0, σ') ∧ σ' 209 13 = qno1 n B k i a ∧ ∀ c t, (c ≠ 209 ∨ t < 12 ∨ 15 < t) → σ' c t = σ c t)) := by
    intro σ1 V fl hX b hb0 hb t1 eb f1 hV
    by_cases k4 : k = 4
    · rw [if_pos k4] at hX
      by_cases i3 : i < 3
      · rw [if_pos i3] at hX
        exact core 759 V fl σ1 b hb0 hb (by decide) (by decide) t1 eb f1 (by rw [nA, if_neg (by omega)]) hV hX
      · rw [if_neg i3, z1, z2, ← z1] at hX
        exact core (756 + i) V fl σ1 b hb0 hb (by omega) (by omega) t1 eb f1 (by rw [nA, if_pos (by omega)]) hV hX
    · rw [if_neg k4] at hX
      exact core 759 V fl σ1 b hb0 hb (by decide) (by decide) t1 eb f1 (by rw [nA, if_neg (by omega)]) hV hX
  have vdn : ∀ (σ1 : zMem) (b : Int), ytk σ1 n B b → ysk n B b = qno1 n B k i a → σ1 209 14 = 2 → σ1 209 15 ≤ 999 → σ1 209 15 = ydgv B (qno1 n B k i a) (qno2 n B k i a - qno1 n B k i a).toNat ∧ 0 ≤ σ1 209 15 := by
    intro σ1 b t1 eb c1 c9
    obtain ⟨tR, t13, u0, u1, u2, u3, u4⟩ := id t1
    rw [eb] at t13 u0 u1 u2 u3 u4
    have dg : 48 ≤ B (qno1 n B k i a) ∧ B (qno1 n B k i a) ≤ 57 := Classical.byContradiction fun u => by
      by_cases w0 : B (qno1 n B k i a) = -1
      · have := (u0 w0).1; omega
      · by_cases w1 : 97 ≤ B (qno1 n B k i a) ∧ B (qno1 n B k i a) ≤ 122
        · have := (u1 w1).1; omega
        · by_cases w3 : B (qno1 n B k i a) = 45 ∨ B (qno1 n B k i a) = 40 ∨ B (qno1 n B k i a) = 44 ∨ B (qno1 n B k i a) = 41
          · have := (u3 w3).1; omega
          · have := (u4 ⟨w0, w1, u, w3⟩).1; omega
    have k15 := (u2 dg).2.2
    have e2 : ysc pdg n B (qno1 n B k i a) = qno2 n B k i a := rfl
    have dgs := (ysc_b hB pdg_0 _ (qno1 n B k i a) rfl).2.2.2
    rw [e2] at k15 dgs
    unfold ydn at k15
    by_cases c2 : qno2 n B k i a - qno1 n B k i a ≤ 3
    · have bd := ydgv_3 (B := B) (b := qno1 n B k i a) (j := (qno2 n B k i a - qno1 n B k i a).toNat) (by omega) (fun i x y => pdg_i.1 (dgs i x (by omega)))
      rw [if_pos c2] at k15
      exact ⟨k15, by omega⟩
    · rw [if_neg c2] at k15
      omega
  by_cases m : qmi k i
  · rw [if_pos m] at hX
    rcases s_301 w (d := d) (by omega) hB h0 ha tk (c := 45) (Or.inl rfl) with ⟨q, e⟩ | ⟨q, ql, σ1, e, t1, f1⟩
    · have g : ¬ qng n B k i a := fun u => q u.1
      have en : qno1 n B k i a = ysk n B a := by unfold qno1; rw [if_neg g]
      rw [e, Option.bind_some] at hX
      dsimp only at hX
      rw [if_pos rfl] at hX
      exact ix σ (σ 209 15) 0 hX a h0 ha tk en.symm (fun _ _ _ => rfl) (fun c1 c9 => by rw [(vdn σ a tk en.symm c1 c9).1]; unfold qnov; rw [if_neg g])
    · have g : qng n B k i a := ⟨q, m⟩
      have b := ysk_b hB ha
      have en : qno1 n B k i a = ysk n B (ysk n B a + 1) := by unfold qno1; rw [if_pos g]
      rw [e, Option.bind_some] at hX
      dsimp only at hX
      rw [if_neg (by decide)] at hX
      exact ix σ1 (zar 5 (σ1 209 15) 0) 1 hX _ (by omega) ql t1 en.symm f1 (fun c1 c9 => by
        obtain ⟨v1, v2⟩ := vdn σ1 _ t1 en.symm c1 c9
        rw [za_5, zw32_i (by omega), v1]; unfold qnov; rw [if_pos g])
  · have g : ¬ qng n B k i a := fun u => m u.2
    have en : qno1 n B k i a = ysk n B a := by unfold qno1; rw [if_neg g]
    rw [if_neg m] at hX
    exact ix σ (σ 209 15) 0 hX a h0 ha tk en.symm (fun _ _ _ => rfl) (fun c1 c9 => by rw [(vdn σ a tk en.symm c1 c9).1]; unfold qnov; rw [if_neg g])
end
