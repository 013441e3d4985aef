/-! What is carved: the reference's method, over what stands in its first set -/
def yto (how b i : Int) : Int := if how = 0 then (if b = 0 then (if i = 0 then 0 else 1) else 1) else if how = 1 then (if b = 0 then 0 else if i = 0 then 1 else 0) else if how = 2 then (if b = 0 then 0 else if i = 0 then 0 else 1) else if b = i then 0 else 1
theorem yto_01 (how b i : Int) : 0 ≤ yto how b i ∧ yto how b i ≤ 1 := by
  unfold yto
  (repeat' split) <;> decide
def ych (how b i : Int) : Int := if yto how b i = b then 0 else 1
theorem ych_01 (how b i : Int) : 0 ≤ ych how b i ∧ ych how b i ≤ 1 := by
  unfold ych
  split <;> decide
theorem l_323b (w : zW) (d : Nat) {how x k t n o : Int} {v4 v5 : zV} {σ : zMem} (hk : 0 ≤ k ∧ k < 4096) (ht : 0 ≤ t ∧ t ≤ 1) (hn : σ 209 24 = n) (hn2 : 0 ≤ n ∧ n < 12) (ho : σ 230 n = o) (ho2 : o ≠ 229) :
    ∃ v4' v5', zden w d 323 98 [zA 13 32 209, zI how, zI x, zI k, v4, v5] [zI t] σ =
      zden w d 323 38 [zA 13 32 209, zI how, zI (zar 0 x (if t = σ 229 k then 0 else 1)), zI (zar 0 k 1), v4', v5'] [] (zup (zup σ o k (if t = σ 229 k then 0 else 1)) 229 k t) := by
  have e0 : t % 2 = t := by omega
  have g : ∀ v, zup σ o k v 229 k = σ 229 k := fun v => zup_f (Or.inl (Ne.symm ho2))
  refine ⟨zlng 0 v4, zI t, ?_⟩
  rw [hX12_carves_98, hn, if_pos hn2, if_pos hk, ho]
  by_cases c : t = σ 229 k
  · rw [if_pos c, if_pos c, hX12_carves_114, if_pos hk, if_pos hk, g, if_pos c, hX12_carves_125, if_pos hk, e0]
    rfl
  · rw [if_neg c, if_neg c, hX12_carves_114, if_pos hk, if_pos hk, g, if_neg c, hX12_carves_125, if_pos hk, e0]
    rfl
theorem l_323s (w : zW) (d : Nat) {how x k n o : Int} {v4 v5 : zV} {σ : zMem} (hk : 0 ≤ k ∧ k < 4096) (hn : σ 209 24 = n) (hn2 : 0 ≤ n ∧ n < 12) (ho : σ 230 n = o) (ho2 : o ≠ 229) :
    ∃ v4' v5', zden w d 323 38 [zA 13 32 209, zI how, zI x, zI k, v4, v5] [] σ =
      zden w d 323 38 [zA 13 32 209, zI how, zI (zar 0 x (ych how (σ 229 k) (σ 215 k))), zI (zar 0 k 1), v4', v5'] [] (zup (zup σ o k (ych how (σ 229 k) (σ 215 k))) 229 k (yto how (σ 229 k) (σ 215 k))) := by
  have key : ∀ (t : Int) (v4 v5 : zV), yto how (σ 229 k) (σ 215 k) = t → ∃ v4' v5', zden w d 323 98 [zA 13 32 209, zI how, zI x, zI k, v4, v5] [zI t] σ =
      zden w d 323 38 [zA 13 32 209, zI how, zI (zar 0 x (ych how (σ 229 k) (σ 215 k))), zI (zar 0 k 1), v4', v5'] [] (zup (zup σ o k (ych how (σ 229 k) (σ 215 k))) 229 k (yto how (σ 229 k) (σ 215 k))) := by
    intro t v4 v5 e
    have := yto_01 how (σ 229 k) (σ 215 k)
    unfold ych
    rw [e]
    exact l_323b w d hk (by omega) hn hn2 ho ho2
  rw [hX12_carves_38, if_pos hk.2, if_pos hk]
  by_cases c0 : how = 0
  · rw [if_pos c0, if_pos hk]
    by_cases b0 : σ 229 k = 0
    · rw [if_pos b0]
      by_cases i0 : σ 215 k = 0
      · rw [if_pos i0]
        exact key _ _ _ (by rw [yto, if_pos c0, if_pos b0, if_pos i0])
      · rw [if_neg i0, hX12_carves_57]
        exact key _ _ _ (by rw [yto, if_pos c0, if_pos b0, if_neg i0])
    · rw [if_neg b0, hX12_carves_57]
      exact key _ _ _ (by rw [yto, if_pos c0, if_neg b0])
  rw [if_neg c0]
  by_cases c1 : how = 1
  · rw [if_pos c1, if_pos hk]
    by_cases b0 : σ 229 k = 0
    · rw [if_pos b0, hX12_carves_73]
      exact key _ _ _ (by rw [yto, if_neg c0, if_pos c1, if_pos b0])
    · rw [if_neg b0]
      by_cases i0 : σ 215 k = 0
      · rw [if_pos i0]
        exact key _ _ _ (by rw [yto, if_neg c0, if_pos c1, if_neg b0, if_pos i0])
      · rw [if_neg i0, hX12_carves_73]
        exact key _ _ _ (by rw [yto, if_neg c0, if_pos c1, if_neg b0, if_neg i0])
  rw [if_neg c1]
  by_cases c2 : how = 2
  · rw [if_pos c2, if_pos hk]
    by_cases b0 : σ 229 k = 0
    · rw [if_pos b0, hX12_carves_87]
      exact key _ _ _ (by rw [yto, if_neg c0, if_neg c1, if_pos c2, if_pos b0])
    · rw [if_neg b0]
      by_cases i0 : σ 215 k = 0
      · rw [if_pos i0, hX12_carves_87]
        exact key _ _ _ (by rw [yto, if_neg c0, if_neg c1, if_pos c2, if_neg b0, if_pos i0])
      · rw [if_neg i0]
        exact key _ _ _ (by rw [yto, if_neg c0, if_neg c1, if_pos c2, if_neg b0, if_neg i0])
  rw [if_neg c2, if_pos hk]
  by_cases b0 : σ 229 k = σ 215 k
  · rw [if_pos b0]
    exact key _ _ _ (by rw [yto, if_neg c0, if_neg c1, if_neg c2, if_pos b0])
  · rw [if_neg b0]
    exact key _ _ _ (by rw [yto, if_neg c0, if_neg c1, if_neg c2, if_neg b0])
/-- the memory after all places are carved, from k on -/
def ycar (o : Int) (F C : Int → Int) (k : Int) (σ : zMem) : zMem := yfm 229 F k 4096 (yfm o C k 4096 σ)
theorem ycar_up {o : Int} {F C : Int → Int} {k : Int} {σ : zMem} (ho : o ≠ 0) (ho2 : o ≠ 229) (hk : k < 4096) : ycar o F C (k + 1) (zup (zup σ o k (C k)) 229 k (F k)) = ycar o F C k σ := by
  unfold ycar
  rw [← yfm_up (o := 229) (f := F) (lo := k) (hi := 4096) (v := F k) (by decide) hk rfl, ← yfm_up (o := o) (f := C) (lo := k) (hi := 4096) (v := C k) ho hk rfl]
  congr 1
  funext a j
  by_cases c : a = o ∧ k + 1 ≤ j ∧ j < 4096
  · rw [yfm_t c, zup_f (by omega), yfm_t c]
  · rw [yfm_f c]
    by_cases c2 : a = 229 ∧ j = k
    · rw [zup_t (by omega), zup_t (by omega)]
    · rw [zup_f (by omega), zup_f (a := 229) (by omega), yfm_f c]
theorem l_323 (w : zW) (d : Nat) {how n o na : Int} {b g : Int → Int} (hn2 : 0 ≤ n ∧ n < 12) (ho2 : o ≠ 229 ∧ o ≠ 215 ∧ o ≠ 209 ∧ o ≠ 230 ∧ o ≠ 0) :
    ∀ (m k : Nat) (v4 v5 : zV) (σ : zMem), k + m = 4096 → σ 209 24 = n → σ 209 25 = na → σ 230 n = o → σ 215 = g → (∀ p : Int, k ≤ p → p < 4096 → σ 229 p = b p) →
    zden w d 323 38 [zA 13 32 209, zI how, zI (yct (fun p => zbo (ych how (b p) (g p))) k : Nat), zI (k : Int), v4, v5] [] σ =
      some (((yct (fun p => zbo (ych how (b p) (g p))) 4096 : Nat) : Int), zup (zup (ycar o (fun p => yto how (b p) (g p)) (fun p => ych how (b p) (g p)) k σ) 209 24 (n + 1)) 209 25 (zw32 (na + 1))) := by
  intro m
  induction m with
  | zero =>
    intro k v4 v5 σ h h1 h2 h3 h4 h5
    have : k = 4096 := by omega
    subst this
    have e : ycar o (fun p => yto how (b p) (g p)) (fun p => ych how (b p) (g p)) ((4096 : Nat) : Int) σ = σ := by
      unfold ycar
      exact (yfm_e (hi := 4096)).trans (yfm_e (hi := 4096))
    have e1 : zar 0 n 1 = n + 1 := by rw [za_0, zw32_i (by omega)]
    have e2 : zup σ 209 24 (n + 1) 209 25 = na := (zup_f (by omega)).trans h2
    rw [hX12_carves_38, if_neg (by omega), h1, e1, e2, za_0, e]
  | succ m ih =>
    intro k v4 v5 σ h h1 h2 h3 h4 h5
    obtain ⟨v4', v5', e⟩ := l_323s w d (how := how) (x := ((yct (fun p => zbo (ych how (b p) (g p))) k : Nat) : Int)) (k := (k : Int)) (v4 := v4) (v5 := v5) (σ := σ) (by omega) h1 hn2 h3 ho2.1
    have hb := h5 k (by omega) (by omega)
    have hc := ych_01 how (b k) (g k)
    have hle := yct_le (fun p => zbo (ych how (b p) (g p))) k
    have e1 : zar 0 (k : Int) 1 = ((k + 1 : Nat) : Int) := by rw [za_0, zw32_i (by omega)]; omega
    have e2 : zar 0 ((yct (fun p => zbo (ych how (b p) (g p))) k : Nat) : Int) (ych how (b k) (g k)) = ((yct (fun p => zbo (ych how (b p) (g p))) (k + 1) : Nat) : Int) := by
      rw [za_0, zw32_i (by omega), yct_s]
      have : ych how (b k) (g k) = 0 ∨ ych how (b k) (g k) = 1 := by omega
      rcases this with q | q <;> rw [q] <;> simp [zbo]
    have h4' : σ 215 (k : Int) = g k := by rw [h4]
    rw [hb, h4', e1, e2] at e
    rw [e, ih (k + 1) v4' v5' _ (by omega) (by rw [zup_f (by omega), zup_f (by omega)]; exact h1) (by rw [zup_f (by omega), zup_f (by omega)]; exact h2) (by rw [zup_f (by omega), zup_f (by omega)]; exact h3)
      (funext fun j => by rw [zup_f (by omega), zup_f (by omega), h4]) (fun p q r => by rw [zup_f (by omega), zup_f (by omega)]; exact h5 p (by omega) r)]
    rw [show ((k + 1 : Nat) : Int) = (k : Int) + 1 by omega]
    rw [ycar_up (F := fun p => yto how (b p) (g p)) (C := fun p => ych how (b p) (g p)) ho2.2.2.2.2 ho2.1 (by omega)]
