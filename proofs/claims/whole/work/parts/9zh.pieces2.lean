section
/-! Calls 29 and 39: pieces, block -/
theorem l_136i (w : zW) {d : Nat} (hd : 3 ≤ d) {a o p0 dn : Int} {g s0 : Int → Bool} (ro : zR w a 0 = o) (ho : o < 169 ∨ 172 < o) : ∀ (m : Nat) (i fo : Int) (v2 v6 : zV) (σ : zMem), 0 ≤ i → i + m = 6 → zPS σ o g → dn < fo → yBI g s0 p0 ynb (zbit σ 171) (σ 172) fo dn i →
    ∃ fo' v2' v5' v6' σ', zden w (d + 1) 136 23 [zA 11 8 169, zA 6 1 a, v2, zI fo, zI dn, zI i, v6] [] σ = zden w (d + 1) 136 13 [zA 11 8 169, zA 6 1 a, v2', zI fo', zI (dn + 1), v5', v6'] [] σ' ∧ yBI g s0 p0 ynb (zbit σ' 171) (σ' 172) fo' (dn + 1) 0 ∧ ∀ c k, c ≠ 171 → c ≠ 172 → σ' c k = σ c k := by
  have r170 : zR w 170 0 = 171 := rfl
  intro m
  induction m with
  | zero =>
    intro i fo v2 v6 σ h0 h P hd1 hB
    have : i = 6 := by omega
    subst this
    have b := yBI_b hB
    have b2 := hB.2.2.2.2.2.2.1
    have e1 : zar 0 dn 1 = dn + 1 := by rw [za_0, zw32_i (by omega)]
    rw [hX10_sizeOfPiece_23, if_neg (by decide), e1]
    exact ⟨fo, v2, _, _, σ, rfl, yBI_6 hB hd1, fun _ _ _ _ => rfl⟩
  | succ m ih =>
    intro i fo v2 v6 σ h0 h P hd1 hB
    have b := yBI_b hB
    have b2 := hB.2.2.2.2.2.2.1
    have e1 : zar 0 i 1 = i + 1 := by rw [za_0, zw32_i (by omega)]
    have hi : 0 ≤ i ∧ i < 6 := by omega
    have Ps : zPS σ 171 (zbit σ 171) := fun p _ _ => rfl
    have nbv : ynb (σ 172 dn) i = -1 ∨ (0 ≤ ynb (σ 172 dn) i ∧ ynb (σ 172 dn) i < 4096) := ymo_b (by omega)
    rw [hX10_sizeOfPiece_23, if_pos hi.2, if_pos (by omega), s_134 w hd hi, Option.bind_some]
    dsimp only
    rw [s_49g w (by omega) ro P, Option.bind_some]
    dsimp only
    rw [zt_if, e1]
    by_cases c1 : yvl g (ynb (σ 172 dn) i) = true
    · have hv : yval (ynb (σ 172 dn) i) ∧ g (ynb (σ 172 dn) i) = true := by
        unfold yvl at c1
        rw [Bool.and_eq_true, decide_eq_true_eq] at c1
        exact c1
      rw [if_pos c1, s_49g w (by omega) r170 Ps, Option.bind_some]
      dsimp only
      rw [zt_if, yvl_p hv.1]
      by_cases c2 : zbit σ 171 (ynb (σ 172 dn) i) = true
      · rw [if_pos c2]
        exact ih (i + 1) fo _ _ σ (by omega) (by omega) P hd1 (yBI_n hB hd1 hi (fun u => by rw [c2] at u; cases u.2.2))
      · have c2' := Bool.eq_false_iff.2 c2
        have lt := yct_lt (n := 4096) hv.1.1 hv.1.2 c2'
        have hfo : fo < 4096 := by have := hB.2.2.2.2.2.1; omega
        have e2 : zar 0 fo 1 = fo + 1 := by rw [za_0, zw32_i (by omega)]
        rw [if_neg c2, if_pos hfo, s_50 w (by omega) _ hv.1, Option.bind_some, r170]
        dsimp only
        rw [if_pos (by omega), e2]
        have f1 : ∀ c k, c ≠ 171 → c ≠ 172 → zup (yset 171 (ynb (σ 172 dn) i) σ) 172 fo (ynb (σ 172 dn) i) c k = σ c k := fun c k u v => by rw [zup_f (by omega), yset_f (by omega)]
        have hB' := yBI_a (seen' := zbit (zup (yset 171 (ynb (σ 172 dn) i) σ) 172 fo (ynb (σ 172 dn) i)) 171) (L' := zup (yset 171 (ynb (σ 172 dn) i) σ) 172 fo (ynb (σ 172 dn) i) 172) ynb_adj hB hd1 hi hv.1 hv.2 c2'
          (fun q hq => by
            have e : zbit (zup (yset 171 (ynb (σ 172 dn) i) σ) 172 fo (ynb (σ 172 dn) i)) 171 q = zbit (yset 171 (ynb (σ 172 dn) i) σ) 171 q := zbit_fr fun k => zup_f (by omega)
            rw [e, zbit_set (by decide) hv.1.1 hq.1]; rfl)
          (fun j a b => by rw [zup_f (by omega), yset_f (by omega)]) (by rw [zup_t ⟨rfl, rfl, by decide⟩])
        obtain ⟨fo', v2', v5', v6', σ', k1, k2, k3⟩ := ih (i + 1) (fo + 1) (zlng 0 v2) (zI (ynb (σ 172 dn) i)) _ (by omega) (by omega) (zPS_fr (fun k => f1 _ _ (by omega) (by omega)) P) (by omega) hB'
        exact ⟨fo', v2', v5', v6', σ', k1, k2, fun c k u v => (k3 c k u v).trans (f1 c k u v)⟩
    · rw [if_neg c1]
      refine ih (i + 1) fo _ _ σ (by omega) (by omega) P hd1 (yBI_n hB hd1 hi (fun u => c1 ?_))
      unfold yvl
      rw [Bool.and_eq_true, decide_eq_true_eq]
      exact ⟨u.1, u.2.1⟩
theorem l_136 (w : zW) {d : Nat} (hd : 3 ≤ d) {a o p0 : Int} {g s0 : Int → Bool} (ro : zR w a 0 = o) (ho : o < 169 ∨ 172 < o) : ∀ (m : Nat) (fo dn : Int) (v2 v5 v6 : zV) (σ : zMem), dn + m = 4096 → zPS σ o g → yBI g s0 p0 ynb (zbit σ 171) (σ 172) fo dn 0 →
    ∃ n σ', zden w (d + 1) 136 13 [zA 11 8 169, zA 6 1 a, v2, zI fo, zI dn, v5, v6] [] σ = some (n, σ') ∧ yBI g s0 p0 ynb (zbit σ' 171) (σ' 172) n n 0 ∧ ∀ c k, c ≠ 171 → c ≠ 172 → σ' c k = σ c k := by
  intro m
  induction m with
  | zero =>
    intro fo dn v2 v5 v6 σ h P hB
    have b := yBI_b hB
    have b2 := hB.2.2.2.2.2.2
    have : dn = fo := by omega
    subst this
    rw [hX10_sizeOfPiece_13, if_neg (by omega)]
    exact ⟨dn, σ, rfl, hB, fun _ _ _ _ => rfl⟩
  | succ m ih =>
    intro fo dn v2 v5 v6 σ h P hB
    have b := yBI_b hB
    have b2 := hB.2.2.2.2.2.2
    rw [hX10_sizeOfPiece_13]
    by_cases c : dn < fo
    · rw [if_pos c, if_pos (by omega)]
      obtain ⟨fo', v2', v5', v6', σ1, e, q, f⟩ := l_136i w hd ro ho 6 0 fo v2 v6 σ (by decide) (by decide) P c hB
      obtain ⟨n, σ2, k1, k2, k3⟩ := ih fo' (dn + 1) v2' v5' v6' σ1 (by omega) (zPS_fr (fun k => f _ _ (by omega) (by omega)) P) q
      rw [e, k1]
      exact ⟨n, σ2, rfl, k2, fun c k u v => (k3 c k u v).trans (f c k u v)⟩
    · have : dn = fo := by omega
      subst this
      rw [if_neg c]
      exact ⟨dn, σ, rfl, hB, fun _ _ _ _ => rfl⟩
theorem s_136 (w : zW) {d : Nat} (hd : 4 ≤ d) {a o p : Int} {g s : Int → Bool} {σ : zMem} (ro : zR w a 0 = o) (ho : o < 169 ∨ 172 < o) (P : zPS σ o g) (hs : zPS σ 171 s) (hp : yval p) (hsp : s p = false) :
    ∃ σ', zcall w d 136 [zA 11 8 169, zA 6 1 a, zI p] σ = some ((yct (ysn g s p) 4096 : Int) - yct s 4096, σ') ∧ zPS σ' 171 (ysn g s p) ∧ ∀ c k, c ≠ 171 → c ≠ 172 → σ' c k = σ c k := by
  obtain ⟨d, rfl⟩ : ∃ e, d = e + 1 := ⟨d - 1, by omega⟩
  have r170 : zR w 170 0 = 171 := rfl
  rw [eX10_sizeOfPiece, s_50 w (by omega) _ hp, Option.bind_some, r170]
  dsimp only
  have f1 : ∀ c k, c ≠ 171 → c ≠ 172 → yset 171 p (zup σ 172 0 p) c k = σ c k := fun c k u v => by rw [yset_f (by omega), zup_f (by omega)]
  have B0 : yBI g s p ynb (zbit (yset 171 p (zup σ 172 0 p)) 171) (yset 171 p (zup σ 172 0 p) 172) 1 0 0 := yBI_0 hp hsp (by rw [yset_f (by omega), zup_t ⟨rfl, rfl, by decide⟩]) (fun q hq => by
    have e : zbit (zup σ 172 0 p) 171 q = s q := (zbit_fr fun k => zup_f (by omega)).trans (hs q hq.1 hq.2)
    rw [zbit_set (by decide) hp.1 hq.1, e]; rfl)
  obtain ⟨n, σ', k1, k2, k3⟩ := l_136 w (d := d) (by omega) ro ho 4096 1 0 (zI p) zU zU _ (by decide) (zPS_fr (fun k => f1 _ _ (by omega) (by omega)) P) B0
  obtain ⟨q1, q2⟩ := yBI_e ynb_adj' k2
  have hS : zPS σ' 171 (ysn g s p) := fun q a b => ysn_i (q1 q ⟨a, b⟩)
  refine ⟨σ', ?_, hS, fun c k u v => (k3 c k u v).trans (f1 c k u v)⟩
  rw [k1, q2, yct_c (n := 4096) hS]
theorem l_135 (w : zW) {d : Nat} (hd : 4 ≤ d) {a o : Int} {g : Int → Bool} (ro : zR w a 0 = o) (ho : o < 169 ∨ 172 < o) : ∀ (m : Nat) (k : Int) (s : Int → Bool) (v3 : zV) (σ : zMem), 0 ≤ k → k + m = 4096 → zPS σ o g → zPS σ 171 s → (0 ≤ σ 169 5 ∧ σ 169 5 ≤ k) → (0 ≤ σ 169 6 ∧ σ 169 6 ≤ 4096) →
    ∃ σ', zden w (d + 1) 135 14 [zA 11 8 169, zA 6 1 a, zI k, v3] [] σ = some (0, σ') ∧ (σ' 169 5, σ' 169 6, σ' 169 7) = yPc g m k s (σ 169 5) (σ 169 6) (σ 169 7) ∧ ∀ c k, ¬ (169 ≤ c ∧ c ≤ 172) → σ' c k = σ c k := by
  have r170 : zR w 170 0 = 171 := rfl
  intro m
  induction m with
  | zero =>
    intro k s v3 σ h0 h P S _ _
    rw [hX10_part_14, if_neg (by omega)]
    exact ⟨σ, rfl, rfl, fun _ _ _ => rfl⟩
  | succ m ih =>
    intro k s v3 σ h0 h P S b5 b6
    have hk : yval k := ⟨h0, by omega⟩
    have e1 : zar 0 k 1 = k + 1 := by rw [za_0, zw32_i (by omega)]
    rw [hX10_part_14, if_pos hk.2, s_49g w (by omega) ro P, Option.bind_some, yPc]
    dsimp only
    rw [zt_if, yvl_p hk, e1]
    by_cases c1 : g k = true
    · rw [if_pos c1, s_49g w (by omega) r170 S, Option.bind_some]
      dsimp only
      rw [zt_if, yvl_p hk]
      by_cases c2 : s k = true
      · rw [if_pos c2, if_neg (fun u => by rw [c2] at u; cases u.2)]
        exact ih (k + 1) s v3 σ (by omega) (by omega) P S (by omega) b6
      · have c2' := Bool.eq_false_iff.2 c2
        obtain ⟨σ1, j1, j2, j3⟩ := s_136 w hd ro ho P S hk c2'
        rw [if_neg c2, if_pos ⟨c1, c2'⟩, j1, Option.bind_some]
        dsimp only
        have w5 : σ1 169 5 = σ 169 5 := j3 _ _ (by decide) (by decide)
        have w6 : σ1 169 6 = σ 169 6 := j3 _ _ (by decide) (by decide)
        have w7 : σ1 169 7 = σ 169 7 := j3 _ _ (by decide) (by decide)
        have bn : (yct (ysn g s k) 4096 : Int) - yct s 4096 ≤ 4096 := by have := yct_le (ysn g s k) 4096; omega
        generalize hn : (yct (ysn g s k) 4096 : Int) - yct s 4096 = n at *
        have e5 : zar 0 (σ 169 5) 1 = σ 169 5 + 1 := by rw [za_0, zw32_i (by omega)]
        rw [w5, e5]
        have g6 : zup σ1 169 5 (σ 169 5 + 1) 169 6 = σ 169 6 := by rw [zup_f (by omega), w6]
        simp only [g6]
        by_cases c3 : σ 169 6 < n
        · obtain ⟨σ2, q1, q2, q3⟩ := ih (k + 1) (ysn g s k) (zI n) (zup (zup (zup σ1 169 5 (σ 169 5 + 1)) 169 6 n) 169 7 k) (by omega) (by omega)
            (zPS_fr (fun k => by rw [zup_f (by omega), zup_f (by omega), zup_f (by omega), j3 _ _ (by omega) (by omega)]) P) (zPS_fr (fun k => by rw [zup_f (by omega), zup_f (by omega), zup_f (by omega)]) j2)
            (by rw [zup_f (by omega), zup_f (by omega), zup_t ⟨rfl, rfl, by decide⟩]; omega) (by rw [zup_f (by omega), zup_t ⟨rfl, rfl, by decide⟩]; omega)
          rw [if_pos c3, q1]
          refine ⟨σ2, rfl, ?_, fun c t u => by rw [q3 c t u, zup_f (by omega), zup_f (by omega), zup_f (by omega), j3 _ _ (by omega) (by omega)]⟩
          rw [q2, if_pos c3, Int.max_eq_right (by omega), zup_f (by omega), zup_f (by omega), zup_t ⟨rfl, rfl, by decide⟩, zup_f (by omega), zup_t ⟨rfl, rfl, by decide⟩, zup_t ⟨rfl, rfl, by decide⟩]
        · obtain ⟨σ2, q1, q2, q3⟩ := ih (k + 1) (ysn g s k) (zI n) (zup σ1 169 5 (σ 169 5 + 1)) (by omega) (by omega)
            (zPS_fr (fun k => by rw [zup_f (by omega), j3 _ _ (by omega) (by omega)]) P) (zPS_fr (fun k => by rw [zup_f (by omega)]) j2)
            (by rw [zup_t ⟨rfl, rfl, by decide⟩]; omega) (by rw [g6]; exact b6)
          rw [if_neg c3, q1]
          refine ⟨σ2, rfl, ?_, fun c t u => by rw [q3 c t u, zup_f (by omega), j3 _ _ (by omega) (by omega)]⟩
          rw [q2, if_neg c3, Int.max_eq_left (by omega), zup_t ⟨rfl, rfl, by decide⟩, g6, zup_f (by omega), w7]
    · rw [if_neg c1, if_neg (fun u => c1 u.1)]
      exact ih (k + 1) s v3 σ (by omega) (by omega) P S (by omega) b6
theorem s_135 (w : zW) {d : Nat} (hd : 5 ≤ d) {a o : Int} {g : Int → Bool} {σ : zMem} (ro : zR w a 0 = o) (ho : o < 169 ∨ 172 < o) (P : zPS σ o g) :
    ∃ σ', zcall w d 135 [zA 11 8 169, zA 6 1 a] σ = some (0, σ') ∧ (σ' 169 5, σ' 169 6, σ' 169 7) = yPc g 4096 0 (fun _ => false) 0 0 (-1) ∧ ∀ c k, ¬ (169 ≤ c ∧ c ≤ 172) → σ' c k = σ c k := by
  obtain ⟨d, rfl⟩ : ∃ e, d = e + 1 := ⟨d - 1, by omega⟩
  have r170 : zR w 170 0 = 171 := rfl
  have e52 := s_52 w d (a := 170) (by rw [r170]; decide) (zup (zup (zup σ 169 5 0) 169 6 0) 169 7 (-1))
  rw [r170] at e52
  obtain ⟨σ1, hσ1⟩ : ∃ σ1, σ1 = ywm 171 (fun _ => 0) 0 (zup (zup (zup σ 169 5 0) 169 6 0) 169 7 (-1)) := ⟨_, rfl⟩
  rw [← hσ1] at e52
  have f1 : ∀ c k, c ≠ 171 → c ≠ 169 → σ1 c k = σ c k := fun c k u v => by rw [hσ1, ywm_f (by omega), zup_f (by omega), zup_f (by omega), zup_f (by omega)]
  have g5 : σ1 169 5 = 0 := by rw [hσ1, ywm_f (by omega), zup_f (by omega), zup_f (by omega), zup_t ⟨rfl, rfl, by decide⟩]
  have g6 : σ1 169 6 = 0 := by rw [hσ1, ywm_f (by omega), zup_f (by omega), zup_t ⟨rfl, rfl, by decide⟩]
  have g7 : σ1 169 7 = -1 := by rw [hσ1, ywm_f (by omega), zup_t ⟨rfl, rfl, by decide⟩]
  have S : zPS σ1 171 (fun _ => false) := by
    intro p a b
    rw [hσ1, zbit_wm ⟨a, b⟩]
    show (zu64 0).testBit _ = false
    have : zu64 0 = 0 := rfl
    rw [this, Nat.zero_testBit]
  obtain ⟨σ2, k1, k2, k3⟩ := l_135 w (d := d) (by omega) ro ho 4096 0 (fun _ => false) zU σ1 (by decide) (by decide) (zPS_fr (fun k => f1 _ _ (by omega) (by omega)) P) S (by rw [g5]; decide) (by rw [g6]; decide)
  rw [g5, g6, g7] at k2
  rw [eX10_part, e52, Option.bind_some]
  exact ⟨σ2, k1, k2, fun c k u => (k3 c k u).trans (f1 c k (by omega) (by omega))⟩
/-! the reference's search -/
theorem l_260i (w : zW) {d : Nat} (hd : 2 ≤ d) {t p0 dn : Int} {g s0 : Int → Bool} (ht : 0 ≤ t ∧ t < 4) : ∀ (m : Nat) (i fo : Int) (v2 v6 : zV) (σ : zMem), 0 ≤ i → i + m = 6 → (∀ q, yval q → σ (215 + t) q = zt (g q = true)) → (∀ q, yval q → σ 219 q = zt (zbo (σ 219 q) = true)) → dn < fo → yBI g s0 p0 yng (fun q => zbo (σ 219 q)) (σ 220) fo dn i →
    ∃ fo' v2' v5' v6' σ', zden w (d + 1) 260 19 [zA 13 32 209, zI t, v2, zI fo, zI dn, zI i, v6] [] σ = zden w (d + 1) 260 14 [zA 13 32 209, zI t, v2', zI fo', zI (dn + 1), v5', v6'] [] σ' ∧ yBI g s0 p0 yng (fun q => zbo (σ' 219 q)) (σ' 220) fo' (dn + 1) 0 ∧ (∀ q, yval q → σ' 219 q = zt (zbo (σ' 219 q) = true)) ∧ ∀ c k, c ≠ 219 → c ≠ 220 → σ' c k = σ c k := by
  have ro := yr_214 w ht
  intro m
  induction m with
  | zero =>
    intro i fo v2 v6 σ h0 h P Z hd1 hB
    have : i = 6 := by omega
    subst this
    have b := yBI_b hB
    have b2 := hB.2.2.2.2.2.2.1
    have e1 : zar 0 dn 1 = dn + 1 := by rw [za_0, zw32_i (by omega)]
    rw [hX12_piece_19, if_neg (by decide), e1]
    exact ⟨fo, v2, _, _, σ, rfl, yBI_6 hB hd1, Z, fun _ _ _ _ => rfl⟩
  | succ m ih =>
    intro i fo v2 v6 σ h0 h P Z hd1 hB
    have b := yBI_b hB
    have b2 := hB.2.2.2.2.2.2.1
    have e1 : zar 0 i 1 = i + 1 := by rw [za_0, zw32_i (by omega)]
    have hi : 0 ≤ i ∧ i < 6 := by omega
    have hL := (hB.2.1 dn b2 hd1).1
    have nbv : yng (σ 220 dn) i = -1 ∨ (0 ≤ yng (σ 220 dn) i ∧ yng (σ 220 dn) i < 4096) := ymo_b (by omega)
    rw [hX12_piece_19, if_pos hi.2, if_pos (by omega), s_258 w hd hL hi, Option.bind_some]
    dsimp only
    rw [e1]
    by_cases c0 : yng (σ 220 dn) i < 0
    · rw [if_pos c0]
      exact ih (i + 1) fo _ _ σ (by omega) (by omega) P Z hd1 (yBI_n hB hd1 hi (fun u => by have := u.1.1; omega))
    · have hv : yval (yng (σ 220 dn) i) := by unfold yval; omega
      have hv' : (0 : Int) ≤ yng (σ 220 dn) i ∧ yng (σ 220 dn) i < 4096 := hv
      rw [if_neg c0, if_pos ht, if_pos hv']
      simp only [ro, P _ hv, zt_if]
      by_cases c1 : g (yng (σ 220 dn) i) = true
      · rw [if_pos c1, if_pos hv']
        by_cases c2 : zbo (σ 219 (yng (σ 220 dn) i)) = true
        · have z : ¬ σ 219 (yng (σ 220 dn) i) = 0 := by unfold zbo at c2; exact of_decide_eq_true c2
          rw [if_neg z]
          exact ih (i + 1) fo _ _ σ (by omega) (by omega) P Z hd1 (yBI_n hB hd1 hi (fun u => by rw [c2] at u; cases u.2.2))
        · have c2' := Bool.eq_false_iff.2 c2
          have z : σ 219 (yng (σ 220 dn) i) = 0 := by unfold zbo at c2; exact Decidable.byContradiction fun u => c2 (decide_eq_true u)
          have lt := yct_lt (s := fun q => zbo (σ 219 q)) (n := 4096) hv.1 hv.2 c2'
          have hfo : fo < 4096 := by have := hB.2.2.2.2.2.1; omega
          have e2 : zar 0 fo 1 = fo + 1 := by rw [za_0, zw32_i (by omega)]
          rw [if_pos z, if_pos hv', if_pos (by omega), e2]
          have f1 : ∀ c k, c ≠ 219 → c ≠ 220 → zup (zup σ 219 (yng (σ 220 dn) i) 1) 220 fo (yng (σ 220 dn) i) c k = σ c k := fun c k u v => by rw [zup_f (by omega), zup_f (by omega)]
          have f9 : ∀ q, zup (zup σ 219 (yng (σ 220 dn) i) 1) 220 fo (yng (σ 220 dn) i) 219 q = if q = yng (σ 220 dn) i then 1 else σ 219 q := by
            intro q
            rw [zup_f (by omega)]
            by_cases e : q = yng (σ 220 dn) i
            · rw [if_pos e, zup_t ⟨rfl, e, by decide⟩]
            · rw [if_neg e, zup_f (by omega)]
          have hB' := yBI_a (seen' := fun q => zbo (zup (zup σ 219 (yng (σ 220 dn) i) 1) 220 fo (yng (σ 220 dn) i) 219 q)) (L' := zup (zup σ 219 (yng (σ 220 dn) i) 1) 220 fo (yng (σ 220 dn) i) 220) yng_adj hB hd1 hi hv c1 c2'
            (fun q hq => by
              rw [f9]
              unfold yup1
              by_cases e : q = yng (σ 220 dn) i
              · rw [if_pos e, decide_eq_true e, Bool.or_true]; rfl
              · rw [if_neg e, decide_eq_false e, Bool.or_false])
            (fun j a b => by rw [zup_f (by omega), zup_f (by omega)]) (by rw [zup_t ⟨rfl, rfl, by decide⟩])
          obtain ⟨fo', v2', v5', v6', σ', k1, k2, k2', k3⟩ := ih (i + 1) (fo + 1) (zlng 0 v2) (zI (yng (σ 220 dn) i)) _ (by omega) (by omega) (fun q hq => (f1 _ _ (by omega) (by omega)).trans (P q hq))
            (fun q hq => by
              rw [f9]
              by_cases e : q = yng (σ 220 dn) i
              · rw [if_pos e]; rfl
              · rw [if_neg e]; exact Z q hq) (by omega) hB'
          exact ⟨fo', v2', v5', v6', σ', k1, k2, k2', fun c k u v => (k3 c k u v).trans (f1 c k u v)⟩
      · rw [if_neg c1]
        exact ih (i + 1) fo _ _ σ (by omega) (by omega) P Z hd1 (yBI_n hB hd1 hi (fun u => c1 u.2.1))
theorem l_260 (w : zW) {d : Nat} (hd : 2 ≤ d) {t p0 : Int} {g s0 : Int → Bool} (ht : 0 ≤ t ∧ t < 4) : ∀ (m : Nat) (fo dn : Int) (v2 v5 v6 : zV) (σ : zMem), dn + m = 4096 → (∀ q, yval q → σ (215 + t) q = zt (g q = true)) → (∀ q, yval q → σ 219 q = zt (zbo (σ 219 q) = true)) → yBI g s0 p0 yng (fun q => zbo (σ 219 q)) (σ 220) fo dn 0 →
    ∃ n σ', zden w (d + 1) 260 14 [zA 13 32 209, zI t, v2, zI fo, zI dn, v5, v6] [] σ = some (n, σ') ∧ yBI g s0 p0 yng (fun q => zbo (σ' 219 q)) (σ' 220) n n 0 ∧ (∀ q, yval q → σ' 219 q = zt (zbo (σ' 219 q) = true)) ∧ ∀ c k, c ≠ 219 → c ≠ 220 → σ' c k = σ c k := by
  intro m
  induction m with
  | zero =>
    intro fo dn v2 v5 v6 σ h P Z hB
    have b := yBI_b hB
    have b2 := hB.2.2.2.2.2.2
    have : dn = fo := by omega
    subst this
    rw [hX12_piece_14, if_neg (by omega)]
    exact ⟨dn, σ, rfl, hB, Z, fun _ _ _ _ => rfl⟩
  | succ m ih =>
    intro fo dn v2 v5 v6 σ h P Z hB
    have b := yBI_b hB
    have b2 := hB.2.2.2.2.2.2
    rw [hX12_piece_14]
    by_cases c : dn < fo
    · rw [if_pos c]
      obtain ⟨fo', v2', v5', v6', σ1, e, q, z, f⟩ := l_260i w hd ht 6 0 fo v2 v6 σ (by decide) (by decide) P Z c hB
      obtain ⟨n, σ2, k1, k2, k2', k3⟩ := ih fo' (dn + 1) v2' v5' v6' σ1 (by omega) (fun q hq => (f _ _ (by omega) (by omega)).trans (P q hq)) z q
      rw [e, k1]
      exact ⟨n, σ2, rfl, k2, k2', fun c k u v => (k3 c k u v).trans (f c k u v)⟩
    · have : dn = fo := by omega
      subst this
      rw [if_neg c]
      exact ⟨dn, σ, rfl, hB, Z, fun _ _ _ _ => rfl⟩
theorem yzz {b : Bool} : zbo (zt (b = true)) = b := by cases b <;> rfl
theorem s_260 (w : zW) {d : Nat} (hd : 3 ≤ d) {t p : Int} {g s : Int → Bool} {σ : zMem} (ht : 0 ≤ t ∧ t < 4) (P : ∀ q, yval q → σ (215 + t) q = zt (g q = true)) (hs : ∀ q, yval q → σ 219 q = zt (s q = true)) (hp : yval p) (hsp : s p = false) :
    ∃ σ', zcall w d 260 [zA 13 32 209, zI t, zI p] σ = some ((yct (ysn g s p) 4096 : Int) - yct s 4096, σ') ∧ (∀ q, yval q → σ' 219 q = zt (ysn g s p q = true)) ∧ ∀ c k, c ≠ 219 → c ≠ 220 → σ' c k = σ c k := by
  obtain ⟨d, rfl⟩ : ∃ e, d = e + 1 := ⟨d - 1, by omega⟩
  have f1 : ∀ c k, c ≠ 219 → c ≠ 220 → zup (zup σ 220 0 p) 219 p 1 c k = σ c k := fun c k u v => by rw [zup_f (by omega), zup_f (by omega)]
  have f9 : ∀ q, zup (zup σ 220 0 p) 219 p 1 219 q = if q = p then 1 else σ 219 q := by
    intro q
    by_cases e : q = p
    · rw [if_pos e, zup_t ⟨rfl, e, by decide⟩]
    · rw [if_neg e, zup_f (by omega), zup_f (by omega)]
  have B0 : yBI g s p yng (fun q => zbo (zup (zup σ 220 0 p) 219 p 1 219 q)) (zup (zup σ 220 0 p) 219 p 1 220) 1 0 0 := yBI_0 hp hsp (by rw [zup_f (by omega), zup_t ⟨rfl, rfl, by decide⟩]) (fun q hq => by
    rw [f9]
    unfold yup1
    by_cases e : q = p
    · rw [if_pos e, decide_eq_true e, Bool.or_true]; rfl
    · rw [if_neg e, decide_eq_false e, Bool.or_false, hs q hq, yzz])
  obtain ⟨n, σ', k1, k2, k2', k3⟩ := l_260 w (d := d) (by omega) ht 4096 1 0 (zI p) zU zU _ (by decide) (fun q hq => (f1 _ _ (by omega) (by omega)).trans (P q hq)) (fun q hq => by
    rw [f9]
    by_cases e : q = p
    · rw [if_pos e]; rfl
    · rw [if_neg e, hs q hq, yzz]) B0
  obtain ⟨q1, q2⟩ := yBI_e yng_adj' k2
  have hS : ∀ q : Int, 0 ≤ q → q < 4096 → zbo (σ' 219 q) = ysn g s p q := fun q a b => ysn_i (seen := fun q => zbo (σ' 219 q)) (q1 q ⟨a, b⟩)
  refine ⟨σ', ?_, fun q hq => ?_, fun c k u v => (k3 c k u v).trans (f1 c k u v)⟩
  · rw [eX12_piece, if_pos (show (0 : Int) ≤ p ∧ p < 4096 from hp), k1, q2, yct_c (n := 4096) hS]
  · rw [k2' q hq, hS q hq.1 hq.2]
theorem l_261 (w : zW) {d : Nat} (hd : 3 ≤ d) {t wh : Int} {g : Int → Bool} (ht : 0 ≤ t ∧ t < 4) : ∀ (m : Nat) (k a b c : Int) (s : Int → Bool) (v7 : zV) (σ : zMem), 0 ≤ k → k + m = 4096 → (∀ q, yval q → σ (215 + t) q = zt (g q = true)) → (∀ q, yval q → σ 219 q = zt (s q = true)) → (0 ≤ a ∧ a ≤ k) → (0 ≤ b ∧ b ≤ 4096) →
    ∃ σ', zden w (d + 1) 261 20 [zA 13 32 209, zI t, zI wh, zI a, zI b, zI c, zI k, v7] [] σ = some (if wh = 0 then (yPc g m k s a b c).1 else if wh = 1 then (yPc g m k s a b c).2.1 else (yPc g m k s a b c).2.2, σ') ∧ ∀ c k, c ≠ 219 → c ≠ 220 → σ' c k = σ c k := by
  have ro := yr_214 w ht
  intro m
  induction m with
  | zero =>
    intro k a b c s v7 σ h0 h P S _ _
    rw [hX12_piecesOf_20, if_neg (by omega)]
    refine ⟨σ, ?_, fun _ _ _ _ => rfl⟩
    rw [yPc]
    (repeat' split) <;> rfl
  | succ m ih =>
    intro k a b c s v7 σ h0 h P S ba bb
    have hk : yval k := ⟨h0, by omega⟩
    have hk' : (0 : Int) ≤ k ∧ k < 4096 := hk
    have e1 : zar 0 k 1 = k + 1 := by rw [za_0, zw32_i (by omega)]
    rw [hX12_piecesOf_20, if_pos hk.2, if_pos ht, if_pos hk', ro, P k hk, zt_if, e1, yPc]
    by_cases c1 : g k = true
    · rw [if_pos c1, if_pos hk', S k hk, zt_if]
      by_cases c2 : s k = true
      · rw [if_pos c2, if_neg (show ¬ (g k = true ∧ s k = false) from fun u => by rw [c2] at u; cases u.2)]
        exact ih (k + 1) a b c s v7 σ (by omega) (by omega) P S (by omega) bb
      · have c2' := Bool.eq_false_iff.2 c2
        obtain ⟨σ1, j1, j2, j3⟩ := s_260 w hd ht P S hk c2'
        have bn : (yct (ysn g s k) 4096 : Int) - yct s 4096 ≤ 4096 := by have := yct_le (ysn g s k) 4096; omega
        have ea : zar 0 a 1 = a + 1 := by rw [za_0, zw32_i (by omega)]
        rw [if_neg c2, if_pos (show g k = true ∧ s k = false from ⟨c1, c2'⟩), j1, Option.bind_some]
        dsimp only
        generalize (yct (ysn g s k) 4096 : Int) - yct s 4096 = n at *
        rw [ea, s_341]
        by_cases c3 : b < n
        · obtain ⟨σ2, q1, q2⟩ := ih (k + 1) (a + 1) (max b n) k (ysn g s k) (zI n) σ1 (by omega) (by omega) (fun q hq => (j3 _ _ (by omega) (by omega)).trans (P q hq)) j2 (by omega) (by omega)
          rw [if_pos c3, if_pos c3, Option.bind_some, q1]
          exact ⟨σ2, rfl, fun c k u v => (q2 c k u v).trans (j3 c k u v)⟩
        · obtain ⟨σ2, q1, q2⟩ := ih (k + 1) (a + 1) (max b n) c (ysn g s k) (zI n) σ1 (by omega) (by omega) (fun q hq => (j3 _ _ (by omega) (by omega)).trans (P q hq)) j2 (by omega) (by omega)
          rw [if_neg c3, if_neg c3, Option.bind_some, q1]
          exact ⟨σ2, rfl, fun c k u v => (q2 c k u v).trans (j3 c k u v)⟩
    · rw [if_neg c1, if_neg (show ¬ (g k = true ∧ s k = false) from fun u => c1 u.1)]
      exact ih (k + 1) a b c s v7 σ (by omega) (by omega) P S (by omega) bb
theorem s_261 (w : zW) {d : Nat} (hd : 4 ≤ d) {t wh : Int} {g : Int → Bool} {σ : zMem} (ht : 0 ≤ t ∧ t < 4) (P : ∀ q, yval q → σ (215 + t) q = zt (g q = true)) :
    ∃ σ', zcall w d 261 [zA 13 32 209, zI t, zI wh] σ = some (if wh = 0 then (yPc g 4096 0 (fun _ => false) 0 0 (-1)).1 else if wh = 1 then (yPc g 4096 0 (fun _ => false) 0 0 (-1)).2.1 else (yPc g 4096 0 (fun _ => false) 0 0 (-1)).2.2, σ') ∧ ∀ c k, c ≠ 219 → c ≠ 220 → σ' c k = σ c k := by
  obtain ⟨d, rfl⟩ : ∃ e, d = e + 1 := ⟨d - 1, by omega⟩
  have clr : ∀ (m : Nat) (k : Int) (σ : zMem), 0 ≤ k → k + m = 4096 → zden w (d + 1) 261 8 [zA 13 32 209, zI t, zI wh, zI 0, zI 0, zI (-1), zI k, zU] [] σ = zden w (d + 1) 261 20 [zA 13 32 209, zI t, zI wh, zI 0, zI 0, zI (-1), zI 0, zU] [] (yfm 219 (fun _ => 0) k 4096 σ) := by
    intro m
    induction m with
    | zero =>
      intro k σ h0 h
      have : k = 4096 := by omega
      subst this
      rw [hX12_piecesOf_8, if_neg (by omega), yfm_e]
    | succ m ih =>
      intro k σ h0 h
      have e1 : zar 0 k 1 = k + 1 := by rw [za_0, zw32_i (by omega)]
      rw [hX12_piecesOf_8, if_pos (by omega), if_pos (by omega), e1, ih _ _ (by omega) (by omega), yfm_up (by decide) (by omega) rfl]
  have f1 : ∀ c k, c ≠ 219 → yfm 219 (fun _ => 0) 0 4096 σ c k = σ c k := fun c k h => yfm_f (by omega)
  obtain ⟨σ2, q1, q2⟩ := l_261 w (d := d) (by omega) (wh := wh) ht 4096 0 0 0 (-1) (fun _ => false) zU (yfm 219 (fun _ => 0) 0 4096 σ) (by decide) (by decide) (fun q hq => (f1 _ _ (by omega)).trans (P q hq)) (fun q hq => yfm_t ⟨rfl, hq⟩) (by decide) (by decide)
  rw [eX12_piecesOf, clr 4096 0 σ (by decide) (by decide), q1]
  exact ⟨σ2, rfl, fun c k u v => (q2 c k u v).trans (f1 c k u)⟩
theorem op_29 (w : zW) (x1 x2 : Int) : zOp zInv w 172 263 [zI x1, zI x2] := by
  intro σ hI
  by_cases h : (0 ≤ x1 ∧ x1 < σ 209 1) ∧ (0 ≤ x2 ∧ x2 ≤ 2)
  · obtain ⟨h1, h2⟩ := h
    have h24 := hI.2.1.1.2.1
    have r2 := (yr_86 w (s := x1) ⟨h1.1, by omega⟩).2
    obtain ⟨σ1, m, P, I1, E, n1, -⟩ := s_198 w (d := 998) (by decide) hI h1.1 h1.2
    obtain ⟨σ2, k1, k2, k3⟩ := s_135 w (d := 998) (by decide) r2 (by omega) P
    have E2 : σ2 210 = σ 210 := (funext fun k => k3 _ _ (by decide)).trans E
    have n2 : σ2 209 1 = σ 209 1 := (k3 _ _ (by decide)).trans n1
    have I2 : zInv σ2 := zalk_I I1 (zalk_s fun a k _ _ _ u _ => k3 a k (by omega))
    have e3 := s_249 w (d := 998) (by decide) (σ := σ2) (n := σ2 209 1) (o := 0) (s := x1) (by decide) I2.2.1.1 h1.1 (by omega)
    rw [E2] at e3
    obtain ⟨σ3, j1, j2⟩ := s_261 w (d := 998) (by decide) (t := 0) (wh := x2) (g := zns (σ 210) x1) (σ := yfm (215 + 0) (fun p => zt (zns (σ 210) x1 p = true)) 0 4096 σ2) (by decide) (fun q hq => yfm_t ⟨rfl, hq⟩)
    have q5 : σ2 169 5 = (yPc (zns (σ 210) x1) 4096 0 (fun _ => false) 0 0 (-1)).1 := congrArg Prod.fst k2
    have q6 : σ2 169 6 = (yPc (zns (σ 210) x1) 4096 0 (fun _ => false) 0 0 (-1)).2.1 := congrArg (fun t => t.2.1) k2
    have q7 : σ2 169 7 = (yPc (zns (σ 210) x1) 4096 0 (fun _ => false) 0 0 (-1)).2.2 := congrArg (fun t => t.2.2) k2
    refine yps w (if x2 = 0 then (yPc (zns (σ 210) x1) 4096 0 (fun _ => false) 0 0 (-1)).1 else if x2 = 1 then (yPc (zns (σ 210) x1) 4096 0 (fun _ => false) 0 0 (-1)).2.1 else (yPc (zns (σ 210) x1) 4096 0 (fun _ => false) 0 0 (-1)).2.2) (σ2 := σ3) I2 ((eX11_pieces w 998 x1 x2 σ).trans ?_) ((eX12_pieces w 998 x1 x2 σ2).trans ?_) (zalk_s fun a k _ _ _ _ u => (j2 a k (by omega) (by omega)).trans (yfm_f (by omega)))
    · rw [yA1 w hI, Option.bind_some]
      dsimp only
      rw [zt_if, if_pos (by omega)]
      rw [s_200, Option.bind_some]
      dsimp only
      rw [zt_if, if_pos (by omega)]
      rw [m, Option.bind_some]
      dsimp only
      rw [k1, Option.bind_some]
      dsimp only
      rw [eX10_parts, eX10_greatest, eX10_leastOfGreatest, q5, q6, q7]
      (repeat' split) <;> rfl
    · rw [yB1 w I2, Option.bind_some]
      dsimp only
      rw [zt_if, if_pos (by omega), s_213, Option.bind_some]
      dsimp only
      rw [zt_if, if_pos (by omega), e3, Option.bind_some]
      dsimp only
      rw [j1]
      rfl
  · refine yop (-62) (zrA σ (-62)) (zrB (zrA σ (-62)) (-62)) ((eX11_pieces w 998 x1 x2 σ).trans ?_) ((eX12_pieces w 998 x1 x2 _).trans ?_) (zref0 hI)
    · rw [yA1 w hI, Option.bind_some]
      dsimp only
      rw [zt_if]
      by_cases u0 : 0 ≤ x1 ∧ x1 < σ 209 1
      · rw [if_pos (by omega)]
        rw [s_200, Option.bind_some]
        dsimp only
        rw [zt_if]
        rw [if_neg (fun u => h ⟨u0, (by omega)⟩)]
        exact ybA w σ
      · rw [if_neg (by omega)]; exact ybA w σ
    · rw [yB1' w hI, Option.bind_some]
      dsimp only
      rw [zt_if]
      by_cases u0 : 0 ≤ x1 ∧ x1 < σ 209 1
      · rw [if_pos (by omega)]
        rw [s_213, Option.bind_some]
        dsimp only
        rw [zt_if]
        rw [if_neg (fun u => h ⟨u0, (by omega)⟩)]
        exact ybB w _
      · rw [if_neg (by omega)]; exact ybB w _
theorem op_39 (w : zW) (x1 : Int) : zOp zInv w 186 327 [zI x1] := by
  intro σ hI
  have hv := hI.2.2.2.2.1.1
  have r1 : zR w 18 0 = 19 := rfl
  have r2 : zR w 19 0 = 20 := rfl
  have P : zPS σ 20 (fun p => zbo (σ 229 p)) := hv.2.2.2.2.2.2.2.1
  by_cases h : 0 ≤ x1 ∧ x1 ≤ 2
  · have s3 := fun σ' : zMem => fun hb => s_326 w 998 (σ := σ') hb
    have Q : ∀ σ' : zMem, (∀ k, σ' 229 k = σ 229 k) → ∀ q, yval q → yfm 216 (σ' 229) 0 4096 σ' (215 + 1) q = zt (zbo (σ 229 q) = true) := by
      intro σ' e q hq
      have b := hv.2.2.2.2.2.2.2.2.1 q hq.1 hq.2
      rw [show (215 : Int) + 1 = 216 from rfl, yfm_t ⟨rfl, hq⟩, e]
      have : σ 229 q = 0 ∨ σ 229 q = 1 := by omega
      rcases this with u | u <;> rw [u] <;> rfl
    by_cases c0 : x1 = 0
    · have ec := yct_c (n := 4096) (f := zbit σ 20) (g := fun p => zbo (σ 229 p)) P
      refine yps w ((yct (fun p => zbo (σ 229 p)) 4096 : Nat) : Int) (σ2 := yfm 216 (σ 229) 0 4096 σ) hI ((eX11_block w 998 x1 σ).trans ?_) ((eX12_block w 998 x1 σ).trans ?_) (yfm_alk (by decide))
      · rw [if_pos c0, eX0_places, Option.bind_some]
        dsimp only
        rw [r1, s_57 w (by decide), r2, ec]
        rfl
      · rw [s_213, Option.bind_some]
        dsimp only
        rw [zt_if, if_pos h, s3 σ hv.2.2.2.2.2.2.2.2.1, Option.bind_some]
        dsimp only
        rw [if_pos c0]
    · by_cases c1 : x1 = 1
      · have e4 := s_259 w (d := 998) (by decide) (o := 1) (g := fun p => zbo (σ 229 p)) (σ := yfm 216 (σ 229) 0 4096 σ) (by decide) (fun p a b => Q σ (fun _ => rfl) p ⟨a, b⟩)
        refine yps w ((yct (fun p => (fun p => zbo (σ 229 p)) p && ybare (fun p => zbo (σ 229 p)) p) 4096 : Int)) (σ2 := yfm 216 (σ 229) 0 4096 σ) hI ((eX11_block w 998 x1 σ).trans ?_) ((eX12_block w 998 x1 σ).trans ?_) (yfm_alk (by decide))
        · rw [if_neg c0, if_pos c1, eX0_places, Option.bind_some]
          dsimp only
          rw [r1, s_132 w (by decide) r2 P]
          rfl
        · rw [s_213, Option.bind_some]
          dsimp only
          rw [zt_if, if_pos h, s3 σ hv.2.2.2.2.2.2.2.2.1, Option.bind_some]
          dsimp only
          rw [if_neg c0, if_pos c1, e4]
          rfl
      · obtain ⟨σ2, k1, k2, k3⟩ := s_135 w (d := 998) (by decide) r2 (by decide) P
        have I2 : zInv σ2 := zalk_I hI (zalk_s fun a k _ _ _ u _ => k3 a k (by omega))
        have e229 : ∀ k, σ2 229 k = σ 229 k := fun k => k3 _ _ (by decide)
        obtain ⟨σ3, j1, j2⟩ := s_261 w (d := 998) (by decide) (t := 1) (wh := 0) (g := fun p => zbo (σ 229 p)) (σ := yfm 216 (σ2 229) 0 4096 σ2) (by decide) (Q σ2 e229)
        have q5 : σ2 169 5 = (yPc (fun p => zbo (σ 229 p)) 4096 0 (fun _ => false) 0 0 (-1)).1 := congrArg Prod.fst k2
        refine yps w (yPc (fun p => zbo (σ 229 p)) 4096 0 (fun _ => false) 0 0 (-1)).1 (σ2 := σ3) I2 ((eX11_block w 998 x1 σ).trans ?_) ((eX12_block w 998 x1 σ2).trans ?_) (zalk_s fun a k _ _ _ _ u => (j2 a k (by omega) (by omega)).trans (yfm_f (by omega)))
        · rw [if_neg c0, if_neg c1, if_pos (by omega), eX0_places, Option.bind_some]
          dsimp only
          rw [r1, k1, Option.bind_some]
          dsimp only
          rw [eX10_parts, q5]
          rfl
        · rw [s_213, Option.bind_some]
          dsimp only
          rw [zt_if, if_pos h, s3 σ2 (fun p a b => by rw [e229]; exact hv.2.2.2.2.2.2.2.2.1 p a b), Option.bind_some]
          dsimp only
          rw [if_neg c0, if_neg c1, j1, if_pos rfl]
          rfl
  · refine yop (-62) (zrA σ (-62)) (zrB (zrA σ (-62)) (-62)) ((eX11_block w 998 x1 σ).trans ?_) ((eX12_block w 998 x1 _).trans ?_) (zref0 hI)
    · rw [if_neg (by omega), if_neg (by omega), if_neg (by omega)]
      exact ybA w σ
    · rw [s_213, Option.bind_some]
      dsimp only
      rw [zt_if, if_neg h]
      exact ybB w _
end
