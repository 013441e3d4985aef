section
/-! Call 9, shape: what the class has begun, what it ends -/
theorem s_70 (w : zW) {d : Nat} {o k word : Int} {σ : zMem} (e5 : σ 78 5 = o) (ho : 0 ≤ o ∧ o < 64) :
    ∃ σ', zcall w (d + 1) 70 [zA 7 11 78, zI k, zI word] σ = some (1, σ') ∧ σ' 80 o = k ∧ σ' 81 o = word ∧ σ' 82 o = -1 ∧ (∀ j, 0 ≤ j → j < 6 → σ' 83 (6 * o + j) = σ 84 j) ∧ σ' 78 5 = o + 1
      ∧ ∀ c t, (c ≠ 78 ∨ t ≠ 5) → (c ≠ 80 ∨ t ≠ o) → (c ≠ 81 ∨ t ≠ o) → (c ≠ 82 ∨ t ≠ o) → (c ≠ 83 ∨ t < 6 * o ∨ 6 * o + 6 ≤ t) → σ' c t = σ c t := by
  have z1 : zar 2 o 6 = 6 * o := by rw [za_2, zw32_i (by omega)]; omega
  have z2 : zar 0 o 1 = o + 1 := by rw [za_0, zw32_i (by omega)]
  have g1 : zup σ 80 o k 78 5 = o := (zup_f (by omega)).trans e5
  have g2 : zup (zup σ 80 o k) 81 o word 78 5 = o := (zup_f (by omega)).trans g1
  have g3 : zup (zup (zup σ 80 o k) 81 o word) 82 o (-1) 78 5 = o := (zup_f (by omega)).trans g2
  have g4 : zfc (zup (zup (zup σ 80 o k) 81 o word) 82 o (-1)) 84 0 83 (6 * o) 6 78 5 = o := (zfc_f (by omega)).trans g3
  refine ⟨zup (zfc (zup (zup (zup σ 80 o k) 81 o word) 82 o (-1)) 84 0 83 (6 * o) 6) 78 5 (o + 1), ?_, ?_, ?_, ?_, fun j x y => ?_, zup_t ⟨rfl, rfl, by decide⟩, fun c t h1 h2 h3 h4 h5 => ?_⟩
  · rw [eX6_begun]
    simp only [e5]
    rw [if_neg (show ¬ o < 0 by omega), if_pos ho.2, if_pos ho]
    simp only [g1]
    rw [if_pos ho]
    simp only [g2]
    rw [if_pos ho]
    simp only [g3, z1]
    rw [if_pos (show True ∧ (True ∨ (20 : Int) = 21) ∧ (0 : Int) ≤ 6 ∧ (0 : Int) ≤ 0 ∧ (0 : Int) ≤ 6 * o ∧ (0 : Int) + 6 ≤ 6 ∧ 6 * o + 6 ≤ 384 ∧ 0 ≤ 8 from ⟨trivial, Or.inl trivial, by omega⟩)]
    simp only [g4, z2]
  · rw [zup_f (by omega), zfc_f (by omega), zup_f (by omega), zup_f (by omega), zup_t ⟨rfl, rfl, by decide⟩]
  · rw [zup_f (by omega), zfc_f (by omega), zup_f (by omega), zup_t ⟨rfl, rfl, by decide⟩]
  · rw [zup_f (by omega), zfc_f (by omega), zup_t ⟨rfl, rfl, by decide⟩]
  · rw [zup_f (by omega), zfc_t ⟨by decide, rfl, by omega, by omega⟩, zup_f (by omega), zup_f (by omega), zup_f (by omega)]
    congr 1; omega
  · rw [zup_f (by omega), zfc_f (by omega), zup_f (by omega), zup_f (by omega), zup_f (by omega)]
/-- nothing is begun any more -/
theorem e_top (w : zW) {d : Nat} (hd : 1 ≤ d) {n a la t : Int} {B : Int → Int} {σ : zMem} {v2 v5 v6 v7 : zV} (hB : ytB n B) (tC : ytC σ n B) (e2 : σ 78 2 = a) (ha : 0 ≤ a) (ht : t < 0) :
    zden w (d + 1) 71 9 [zA 7 11 78, zA 10 8 2, v2, zI la, zI t, v5, v6, v7] [] σ = some (0, if ysk n B a < n then zup (zup σ 78 2 (ysk n B a)) 78 3 (ysk n B a) else zup σ 78 2 (ysk n B a)) := by
  have g2 : zup σ 78 2 (ysk n B a) 78 2 = ysk n B a := zup_t ⟨rfl, rfl, by decide⟩
  have g1 : zup σ 78 2 (ysk n B a) 78 1 = n := (zup_f (by omega)).trans tC.1
  rw [hX6_end_9, if_pos ht, s_75 w hd hB tC e2 ha, Option.bind_some]
  dsimp only
  simp only [g2, g1]
  by_cases c : ysk n B a < n
  · rw [if_pos c, if_pos c, eX6_isFault, Option.bind_some]
    rfl
  · rw [if_neg c, if_neg c]
/-- the first of two parts is whole -/
theorem e_first (w : zW) {d : Nat} (hd : 2 ≤ d) {n a la t : Int} {B : Int → Int} {σ : zMem} {v2 v5 v6 v7 : zV} (hB : ytB n B) (tC : ytC σ n B) (e2 : σ 78 2 = a) (ha : 0 ≤ a ∧ a ≤ n) (ht : 0 ≤ t ∧ t < 64) (hk : 8 ≤ σ 80 t ∧ σ 80 t ≤ 11) (hf : σ 82 t = -1) :
    zden w (d + 1) 71 9 [zA 7 11 78, zA 10 8 2, v2, zI la, zI t, v5, v6, v7] [] σ = some (if B (ysk n B a) = 44 then (1, zup (zup σ 82 t la) 78 2 (ysk n B a + 1)) else (0, zup (zup (zup σ 82 t la) 78 2 (ysk n B a)) 78 3 (ysk n B a))) := by
  have t1 : ytC (zup σ 82 t la) n B := ytC_u (by decide) (Or.inl (by decide)) tC
  rw [hX6_end_9, if_neg (by omega), if_pos ht, s_28, Option.bind_some]
  dsimp only
  rw [zt_if, if_pos hk, if_pos ht]
  simp only [hf]
  rw [if_pos trivial, if_pos ht, s_76 w hd hB t1 ((zup_f (by omega)).trans e2) ha, Option.bind_some]
  split <;> rfl
/-- a bracket closes -/
theorem e_close (w : zW) {d : Nat} (hd : 2 ≤ d) {n a la t k f g : Int} {B : Int → Int} {σ : zMem} {v2 v5 v6 v7 : zV} (hB : ytB n B) (tC : ytC σ n B) (e2 : σ 78 2 = a) (ha : 0 ≤ a ∧ a ≤ n) (ht : 0 ≤ t ∧ t < 64) (ek : σ 80 t = k) (hl : 0 ≤ la) (h : (8 ≤ k ∧ k ≤ 11 ∧ σ 82 t = f ∧ f ≠ -1 ∧ g = la) ∨ (12 ≤ k ∧ k ≤ 17 ∧ f = la ∧ g = -1)) :
    ∃ v2' v5' v6' v7', zden w (d + 1) 71 9 [zA 7 11 78, zA 10 8 2, v2, zI la, zI t, v5, v6, v7] [] σ = if B (ysk n B a) = 41 then (zcall w d 119 [zA 10 8 2, zI k, zI f, zI g] (zup σ 78 2 (ysk n B a + 1))).bind (fun r => if r.1 = 0 then (zcall w d 72 [zA 7 11 78, zA 10 8 2, zI (zfc r.2 83 (6 * t) 84 0 6 80 t), zI f, zI g] (zfc r.2 83 (6 * t) 84 0 6)).bind (fun r7 => zden w (d + 1) 71 9 [zA 7 11 78, zA 10 8 2, v2', zI r7.1, zI (t - 1), v5', v6', v7'] [] (zup r7.2 78 5 t)) else some (0, zup r.2 78 3 (r.2 81 t))) else some (0, zup (zup σ 78 2 (ysk n B a)) 78 3 (ysk n B a)) := by
  have z1 : zar 2 t 6 = 6 * t := by rw [za_2, zw32_i (by omega)]; omega
  have z2 : zar 0 t (-1) = t - 1 := by rw [za_0, zw32_i (by omega)]; omega
  have cpy : (20 : Int) = 20 ∧ ((20 : Int) = 20 ∨ (20 : Int) = 21) ∧ (0 : Int) ≤ 6 ∧ (0 : Int) ≤ 6 * t ∧ (0 : Int) ≤ 0 ∧ (6 * t : Int) + 6 ≤ 384 ∧ (0 : Int) + 6 ≤ 6 ∧ (0 : Int) ≤ 8 := by omega
  have g80 : zup σ 78 2 (ysk n B a + 1) 80 t = k := (zup_f (by omega)).trans ek
  rcases h with ⟨k8, k11, rfl, fn, rfl⟩ | ⟨k12, k17, rfl, rfl⟩
  · have hk : 8 ≤ σ 80 t ∧ σ 80 t ≤ 11 := by omega
    refine ⟨zlng 0 v2, zI (zt (8 ≤ σ 80 t ∧ σ 80 t ≤ 11)), zI (σ 82 t), zI g, ?_⟩
    rw [hX6_end_9, if_neg (by omega), if_pos ht, s_28, Option.bind_some]
    dsimp only
    rw [zt_if, if_pos hk, if_pos ht, if_neg fn, s_76 w hd hB tC e2 ha, Option.bind_some]
    by_cases c : B (ysk n B a) = 41
    · rw [if_pos c, if_pos c]
      dsimp only
      rw [if_neg (by decide), zt_if, if_pos hk, if_pos ht, g80]
      refine congrArg _ (funext fun r => ?_)
      by_cases c0 : r.1 = 0
      · rw [if_pos c0, if_pos c0, z1, z2, if_pos (by omega), if_pos ht]
      · rw [if_neg c0, if_neg c0, if_pos ht, eX6_isFault, Option.bind_some]
        rfl
    · rw [if_neg c, if_neg c]
      dsimp only
      rw [if_pos rfl]
  · have hk : ¬ (8 ≤ σ 80 t ∧ σ 80 t ≤ 11) := by omega
    refine ⟨zlng 0 v2, zI (zt (8 ≤ σ 80 t ∧ σ 80 t ≤ 11)), zI f, zI (-1), ?_⟩
    rw [hX6_end_9, if_neg (by omega), if_pos ht, s_28, Option.bind_some]
    dsimp only
    rw [zt_if, if_neg hk, if_neg (show ¬ f = -1 by omega), s_76 w hd hB tC e2 ha, Option.bind_some]
    by_cases c : B (ysk n B a) = 41
    · rw [if_pos c, if_pos c]
      dsimp only
      rw [if_neg (by decide), zt_if, if_neg hk, if_pos ht, g80]
      refine congrArg _ (funext fun r => ?_)
      by_cases c0 : r.1 = 0
      · rw [if_pos c0, if_pos c0, z1, z2, if_pos (by omega), if_pos ht]
      · rw [if_neg c0, if_neg c0, if_pos ht, eX6_isFault, Option.bind_some]
        rfl
    · rw [if_neg c, if_neg c]
      dsimp only
      rw [if_pos rfl]
end
