section
/-! Call 9, shape: the tokens of the reference, numbers -/
def ydgv (B : Int → Int) (b : Int) : Nat → Int
  | 0 => 0
  | m + 1 => 10 * ydgv B b m + (B (b + m) - 48)
theorem ydgv_b {B : Int → Int} {b : Int} {j : Nat} (h : ∀ i : Int, b ≤ i → i < b + j → 48 ≤ B i ∧ B i ≤ 57) : 0 ≤ ydgv B b j ∧ ydgv B b j < 10 ^ j := by
  induction j with
  | zero => exact ⟨Int.le_refl _, by show (0 : Int) < 10 ^ 0; decide⟩
  | succ j ih =>
    obtain ⟨i1, i2⟩ := ih (fun i x y => h i x (by omega))
    have := h (b + j) (by omega) (by omega)
    refine ⟨by show 0 ≤ 10 * ydgv B b j + (B (b + j) - 48); omega, ?_⟩
    show 10 * ydgv B b j + (B (b + j) - 48) < 10 ^ (j + 1)
    rw [Int.pow_succ]
    omega
theorem ydgv_3 {B : Int → Int} {b : Int} {j : Nat} (hj : j ≤ 3) (h : ∀ i : Int, b ≤ i → i < b + j → 48 ≤ B i ∧ B i ≤ 57) : 0 ≤ ydgv B b j ∧ ydgv B b j ≤ 999 := by
  obtain ⟨h1, h2⟩ := ydgv_b h
  have : j = 0 ∨ j = 1 ∨ j = 2 ∨ j = 3 := by omega
  refine ⟨h1, ?_⟩
  rcases this with rfl | rfl | rfl | rfl
  · have : (10 : Int) ^ 0 = 1 := by decide
    omega
  · have : (10 : Int) ^ 1 = 10 := by decide
    omega
  · have : (10 : Int) ^ 2 = 100 := by decide
    omega
  · have : (10 : Int) ^ 3 = 1000 := by decide
    omega
/-- the number at b that ends at e, or too large a one -/
def ydn (B : Int → Int) (b e : Int) : Int := if e - b ≤ 3 then ydgv B b (e - b).toNat else 99999
/-- the token behind place a -/
def ytk (σ : zMem) (n : Int) (B : Int → Int) (a : Int) : Prop :=
  ytR σ n B ∧ σ 209 13 = ysk n B a
  ∧ (B (ysk n B a) = -1 → σ 209 14 = 0 ∧ σ 209 12 = ysk n B a)
  ∧ ((97 ≤ B (ysk n B a) ∧ B (ysk n B a) ≤ 122) → σ 209 14 = 1 ∧ σ 209 12 = ysc plt n B (ysk n B a) ∧ σ 209 15 = ywx B (ysk n B a) (ysc plt n B (ysk n B a)))
  ∧ ((48 ≤ B (ysk n B a) ∧ B (ysk n B a) ≤ 57) → σ 209 14 = 2 ∧ σ 209 12 = ysc pdg n B (ysk n B a) ∧ σ 209 15 = ydn B (ysk n B a) (ysc pdg n B (ysk n B a)))
  ∧ ((B (ysk n B a) = 45 ∨ B (ysk n B a) = 40 ∨ B (ysk n B a) = 44 ∨ B (ysk n B a) = 41) → σ 209 14 = 3 ∧ σ 209 12 = ysk n B a + 1 ∧ σ 209 15 = B (ysk n B a))
  ∧ ((B (ysk n B a) ≠ -1 ∧ ¬ (97 ≤ B (ysk n B a) ∧ B (ysk n B a) ≤ 122) ∧ ¬ (48 ≤ B (ysk n B a) ∧ B (ysk n B a) ≤ 57) ∧ ¬ (B (ysk n B a) = 45 ∨ B (ysk n B a) = 40 ∨ B (ysk n B a) = 44 ∨ B (ysk n B a) = 41)) → σ 209 14 = 4 ∧ σ 209 12 = ysk n B a + 1)
theorem ytk_f {σ σ' : zMem} {n a : Int} {B : Int → Int} (h : ∀ k, 11 ≤ k → k ≤ 15 → σ' 209 k = σ 209 k) (g : ∀ k, σ' 223 k = σ 223 k) (t : ytk σ n B a) : ytk σ' n B a := by
  unfold ytk
  rw [h 12 (by decide) (by decide), h 13 (by decide) (by decide), h 14 (by decide) (by decide), h 15 (by decide) (by decide)]
  exact ⟨ytR_f (h 11 (by decide) (by decide)) g t.1, t.2⟩
theorem l_300w (w : zW) {d : Nat} (hd : 4 ≤ d) {n b : Int} {B : Int → Int} (hB : ytB n B) (h0 : 0 ≤ b) : ∀ (m : Nat) (a : Int) (σ : zMem) (v : zV), (n - a).toNat = m → b ≤ a → a ≤ n → ytR σ n B → σ 209 12 = a → σ 209 13 = b →
    ∃ σ', zden w (d + 1) 300 35 [zA 13 32 209, v] [] σ = some (0, σ') ∧ σ' 209 12 = ysc plt n B a ∧ σ' 209 13 = b ∧ σ' 209 14 = 1 ∧ σ' 209 15 = ywx B b (ysc plt n B a) ∧ ∀ c k, (c ≠ 209 ∨ k < 12 ∨ 15 < k) → σ' c k = σ c k := by
  have hn := hB.2.1
  intro m
  induction m with
  | zero =>
    intro a σ v h hb ha t e1 e2
    have c : ¬ plt (B a) = true := fun u => by have := ysc_lt hB plt_0 u; omega
    have t' : ytR (zup σ 209 14 1) n B := ytR_f (zup_f (by omega)) (fun k => zup_f (by omega)) t
    have c' : ¬ (97 ≤ B a ∧ B a ≤ 122) := fun u => c (plt_i.2 u)
    have g2 : zup σ 209 14 1 209 12 = a := by rw [zup_f (by omega)]; exact e1
    have g3 : zup σ 209 14 1 209 13 = b := by rw [zup_f (by omega)]; exact e2
    refine ⟨zup (zup σ 209 14 1) 209 15 (ywx B b a), ?_, ?_, ?_, ?_, ?_, fun c k u => by rw [zup_f (by omega), zup_f (by omega)]⟩
    · rw [hX12_next_35, e1, s_298 w d hB t (by omega), Option.bind_some]
      dsimp only
      rw [s_213, Option.bind_some]
      dsimp only
      rw [zt_if, if_neg c', g2, g3, s_299 w hd hB t' h0 hb ha, Option.bind_some]
    · rw [zup_f (by omega), ysc_f c]; exact g2
    · rw [zup_f (by omega)]; exact g3
    · rw [zup_f (by omega), zup_t ⟨rfl, rfl, by decide⟩]
    · rw [zup_t ⟨rfl, rfl, by decide⟩, ysc_f c]
  | succ m ih =>
    intro a σ v h hb ha t e1 e2
    by_cases c : plt (B a) = true
    · have c' := plt_i.1 c
      have ez : zar 0 a 1 = a + 1 := by rw [za_0, zw32_i (by omega)]
      obtain ⟨σ', k1, k2, k3, k4, k5, k6⟩ := ih (a + 1) (zup σ 209 12 (a + 1)) v (by omega) (by omega) (by omega) (ytR_f (zup_f (by omega)) (fun k => zup_f (by omega)) t) (zup_t ⟨rfl, rfl, by decide⟩) (by rw [zup_f (by omega)]; exact e2)
      rw [ysc_t hB plt_0 c]
      refine ⟨σ', ?_, k2, k3, k4, k5, fun c k u => (k6 c k u).trans (zup_f (by omega))⟩
      rw [hX12_next_35, e1, s_298 w d hB t (by omega), Option.bind_some]
      dsimp only
      rw [s_213, Option.bind_some]
      dsimp only
      rw [zt_if, if_pos c', e1, ez]
      exact k1
    · have t' : ytR (zup σ 209 14 1) n B := ytR_f (zup_f (by omega)) (fun k => zup_f (by omega)) t
      have c' : ¬ (97 ≤ B a ∧ B a ≤ 122) := fun u => c (plt_i.2 u)
      have g2 : zup σ 209 14 1 209 12 = a := by rw [zup_f (by omega)]; exact e1
      have g3 : zup σ 209 14 1 209 13 = b := by rw [zup_f (by omega)]; exact e2
      refine ⟨zup (zup σ 209 14 1) 209 15 (ywx B b a), ?_, ?_, ?_, ?_, ?_, fun c k u => by rw [zup_f (by omega), zup_f (by omega)]⟩
      · rw [hX12_next_35, e1, s_298 w d hB t (by omega), Option.bind_some]
        dsimp only
        rw [s_213, Option.bind_some]
        dsimp only
        rw [zt_if, if_neg c', g2, g3, s_299 w hd hB t' h0 hb ha, Option.bind_some]
      · rw [zup_f (by omega), ysc_f c]; exact g2
      · rw [zup_f (by omega)]; exact g3
      · rw [zup_f (by omega), zup_t ⟨rfl, rfl, by decide⟩]
      · rw [zup_t ⟨rfl, rfl, by decide⟩, ysc_f c]
theorem l_300d (w : zW) {d : Nat} {n b : Int} {B : Int → Int} (hB : ytB n B) (h0 : 0 ≤ b) : ∀ (m : Nat) (a : Int) (σ : zMem) (v : zV), (n - a).toNat = m → b ≤ a → a ≤ n → (∀ i : Int, b ≤ i → i < a → 48 ≤ B i ∧ B i ≤ 57) → ytR σ n B → σ 209 12 = a → σ 209 13 = b → σ 209 15 = ydn B b a →
    ∃ σ', zden w (d + 1) 300 72 [zA 13 32 209, v] [] σ = some (0, σ') ∧ σ' 209 12 = ysc pdg n B a ∧ σ' 209 13 = b ∧ σ' 209 14 = 2 ∧ σ' 209 15 = ydn B b (ysc pdg n B a) ∧ ∀ c k, (c ≠ 209 ∨ k < 12 ∨ 15 < k) → σ' c k = σ c k := by
  have hn := hB.2.1
  have stop : ∀ (a : Int) (σ : zMem) (v : zV), 0 ≤ a → ¬ (48 ≤ B a ∧ B a ≤ 57) → ytR σ n B → σ 209 12 = a → σ 209 13 = b → σ 209 15 = ydn B b a → ∃ σ', zden w (d + 1) 300 72 [zA 13 32 209, v] [] σ = some (0, σ') ∧ σ' 209 12 = ysc pdg n B a ∧ σ' 209 13 = b ∧ σ' 209 14 = 2 ∧ σ' 209 15 = ydn B b (ysc pdg n B a) ∧ ∀ c k, (c ≠ 209 ∨ k < 12 ∨ 15 < k) → σ' c k = σ c k := by
    intro a σ v ha c t e1 e2 e3
    rw [ysc_f (p := pdg) (fun u => c (pdg_i.1 u))]
    refine ⟨zup σ 209 14 2, ?_, (zup_f (by omega)).trans e1, (zup_f (by omega)).trans e2, zup_t ⟨rfl, rfl, by decide⟩, (zup_f (by omega)).trans e3, fun c k u => zup_f (by omega)⟩
    rw [hX12_next_72, e1, s_298 w d hB t ha, Option.bind_some]
    dsimp only
    rw [s_213, Option.bind_some]
    dsimp only
    rw [zt_if, if_neg c]
  intro m
  induction m with
  | zero =>
    intro a σ v h hb ha hd t e1 e2 e3
    exact stop a σ v (by omega) (fun u => by have := ysc_lt hB pdg_0 (pdg_i.2 u); omega) t e1 e2 e3
  | succ m ih =>
    intro a σ v h hb ha hd t e1 e2 e3
    by_cases c : 48 ≤ B a ∧ B a ≤ 57
    · have ez : zar 0 a 1 = a + 1 := by rw [za_0, zw32_i (by omega)]
      have ey : zar 1 a b = a - b := by rw [za_1, zw32_i (by omega)]
      have hd' : ∀ i : Int, b ≤ i → i < a + 1 → 48 ≤ B i ∧ B i ≤ 57 := fun i x y => by
        by_cases e : i = a
        · rw [e]; exact c
        · exact hd i x (by omega)
      rw [ysc_t hB pdg_0 (pdg_i.2 c)]
      have go : ∀ t' : Int, t' = ydn B b (a + 1) → ∃ σ', zden w (d + 1) 300 72 [zA 13 32 209, v] [] (zup (zup σ 209 15 t') 209 12 (a + 1)) = some (0, σ') ∧ σ' 209 12 = ysc pdg n B (a + 1) ∧ σ' 209 13 = b ∧ σ' 209 14 = 2 ∧ σ' 209 15 = ydn B b (ysc pdg n B (a + 1)) ∧ ∀ c k, (c ≠ 209 ∨ k < 12 ∨ 15 < k) → σ' c k = σ c k := by
        intro t' ht
        obtain ⟨σ', k1, k2, k3, k4, k5, k6⟩ := ih (a + 1) (zup (zup σ 209 15 t') 209 12 (a + 1)) v (by omega) (by omega) (by omega) hd' (ytR_f ((zup_f (by omega)).trans (zup_f (by omega))) (fun k => (zup_f (by omega)).trans (zup_f (by omega))) t) (zup_t ⟨rfl, rfl, by decide⟩) (by rw [zup_f (by omega), zup_f (by omega)]; exact e2) (by rw [zup_f (by omega), zup_t ⟨rfl, rfl, by decide⟩]; exact ht)
        exact ⟨σ', k1, k2, k3, k4, k5, fun c k u => (k6 c k u).trans ((zup_f (by omega)).trans (zup_f (by omega)))⟩
      have q12 : ∀ v : Int, zup σ 209 15 v 209 12 = a := fun v => (zup_f (by omega)).trans e1
      by_cases c3 : a - b < 3
      · have hj : ((a - b).toNat : Int) = a - b := by omega
        have bd := ydgv_3 (B := B) (b := b) (j := (a - b).toNat) (by omega) (fun i x y => hd i x (by omega))
        have en : ydn B b a = ydgv B b (a - b).toNat := by unfold ydn; rw [if_pos (by omega)]
        have en1 : ydn B b (a + 1) = 10 * ydgv B b (a - b).toNat + (B a - 48) := by
          unfold ydn
          rw [if_pos (by omega), show (a + 1 - b).toNat = (a - b).toNat + 1 by omega]
          show 10 * ydgv B b (a - b).toNat + (B (b + (a - b).toNat) - 48) = _
          rw [hj, show b + (a - b) = a by omega]
        obtain ⟨σ', k1, k2⟩ := go (10 * ydgv B b (a - b).toNat + (B a - 48)) en1.symm
        refine ⟨σ', ?_, k2⟩
        rw [hX12_next_72, e1, s_298 w d hB t (by omega), Option.bind_some]
        dsimp only
        rw [s_213, Option.bind_some]
        dsimp only
        rw [zt_if, if_pos c]
        simp only [e1, e2, ey]
        rw [if_pos c3, s_298 w d hB t (by omega), Option.bind_some]
        dsimp only
        have ev : zar 1 (zar 0 (zar 2 10 (σ 209 15)) (B a)) 48 = 10 * ydgv B b (a - b).toNat + (B a - 48) := by
          rw [e3, en, za_2, zw32_i (by omega), za_0, zw32_i (by omega), za_1, zw32_i (by omega)]; omega
        rw [ev, q12, ez]
        exact k1
      · obtain ⟨σ', k1, k2⟩ := go 99999 (by unfold ydn; rw [if_neg (by omega)])
        refine ⟨σ', ?_, k2⟩
        rw [hX12_next_72, e1, s_298 w d hB t (by omega), Option.bind_some]
        dsimp only
        rw [s_213, Option.bind_some]
        dsimp only
        rw [zt_if, if_pos c]
        simp only [e1, e2, ey]
        rw [if_neg c3, q12, ez]
        exact k1
    · exact stop a σ v (by omega) c t e1 e2 e3
theorem l_300 (w : zW) {d : Nat} (hd : 4 ≤ d) {n : Int} {B : Int → Int} (hB : ytB n B) : ∀ (m : Nat) (a : Int) (σ : zMem), (n - a).toNat = m → 0 ≤ a → a ≤ n → ytR σ n B → σ 209 12 = a →
    ∃ σ', zden w (d + 1) 300 0 [zA 13 32 209, zU] [] σ = some (0, σ') ∧ ytk σ' n B a ∧ ∀ c k, (c ≠ 209 ∨ k < 12 ∨ 15 < k) → σ' c k = σ c k := by
  have hn := hB.2.1
  have stop : ∀ (a : Int) (σ : zMem), 0 ≤ a → a ≤ n → B a ≠ 32 → ytR σ n B → σ 209 12 = a → ∃ σ', zden w (d + 1) 300 0 [zA 13 32 209, zU] [] σ = some (0, σ') ∧ ytk σ' n B a ∧ ∀ c k, (c ≠ 209 ∨ k < 12 ∨ 15 < k) → σ' c k = σ c k := by
    intro a σ h0 ha c t e
    have es : ysk n B a = a := ysc_f (fun u => c (pbl_i.1 u))
    have t' : ytR (zup σ 209 13 a) n B := ytR_f (zup_f (by omega)) (fun k => zup_f (by omega)) t
    have g2 : zup σ 209 13 a 209 12 = a := (zup_f (by omega)).trans e
    have g3 : zup σ 209 13 a 209 13 = a := zup_t ⟨rfl, rfl, by decide⟩
    have ez : zar 0 a 1 = a + 1 := by rw [za_0, zw32_i (by omega)]
    have fr : ∀ σ' : zMem, (∀ c k, (c ≠ 209 ∨ k < 12 ∨ 15 < k) → σ' c k = zup σ 209 13 a c k) → ∀ c k, (c ≠ 209 ∨ k < 12 ∨ 15 < k) → σ' c k = σ c k := fun σ' h c k u => (h c k u).trans (zup_f (by omega))
    have tr : ∀ σ' : zMem, (∀ c k, (c ≠ 209 ∨ k < 12 ∨ 15 < k) → σ' c k = zup σ 209 13 a c k) → ytR σ' n B := fun σ' h => ytR_f (h _ _ (by omega)) (fun k => h _ _ (by omega)) t'
    unfold ytk
    rw [es]
    rw [hX12_next_0, e, s_298 w d hB t h0, Option.bind_some]
    dsimp only
    rw [if_neg c, e, g2, s_298 w d hB t' h0, Option.bind_some]
    dsimp only
    by_cases c1 : B a = -1
    · rw [if_pos c1]
      have f : ∀ c k, (c ≠ 209 ∨ k < 12 ∨ 15 < k) → zup (zup σ 209 13 a) 209 14 0 c k = zup σ 209 13 a c k := fun c k u => zup_f (by omega)
      exact ⟨_, rfl, ⟨tr _ f, (zup_f (by omega)).trans g3, fun _ => ⟨zup_t ⟨rfl, rfl, by decide⟩, (zup_f (by omega)).trans g2⟩, fun u => by omega, fun u => by omega, fun u => by omega, fun u => absurd c1 u.1⟩, fr _ f⟩
    · rw [if_neg c1, s_213, Option.bind_some]
      dsimp only
      rw [zt_if]
      by_cases c2 : 97 ≤ B a ∧ B a ≤ 122
      · obtain ⟨σ', k1, k2, k3, k4, k5, k6⟩ := l_300w w hd hB h0 _ a (zup σ 209 13 a) (zI (B a)) rfl (Int.le_refl _) ha t' g2 g3
        rw [if_pos c2, k1]
        exact ⟨σ', rfl, ⟨tr _ k6, k3, fun u => absurd u c1, fun _ => ⟨k4, k2, k5⟩, fun u => by omega, fun u => by omega, fun u => absurd c2 u.2.1⟩, fr _ k6⟩
      · rw [if_neg c2, s_213, Option.bind_some]
        dsimp only
        rw [zt_if]
        by_cases c3 : 48 ≤ B a ∧ B a ≤ 57
        · obtain ⟨σ', k1, k2, k3, k4, k5, k6⟩ := l_300d w (d := d) hB h0 _ a (zup (zup σ 209 13 a) 209 15 0) (zI (B a)) rfl (Int.le_refl _) ha (fun i x y => by omega) (ytR_f (zup_f (by omega)) (fun k => zup_f (by omega)) t') ((zup_f (by omega)).trans g2) ((zup_f (by omega)).trans g3) (by rw [zup_t ⟨rfl, rfl, by decide⟩]; unfold ydn; rw [if_pos (by omega), show (a - a).toNat = 0 by omega]; rfl)
          have f : ∀ c k, (c ≠ 209 ∨ k < 12 ∨ 15 < k) → σ' c k = zup σ 209 13 a c k := fun c k u => (k6 c k u).trans (zup_f (by omega))
          rw [if_pos c3, k1]
          exact ⟨σ', rfl, ⟨tr _ f, k3, fun u => absurd u c1, fun u => absurd u c2, fun _ => ⟨k4, k2, k5⟩, fun u => by omega, fun u => absurd c3 u.2.2.1⟩, fr _ f⟩
        · rw [if_neg c3, g2, ez]
          have f : ∀ v u : Int, ∀ c k, (c ≠ 209 ∨ k < 12 ∨ 15 < k) → zup (zup (zup (zup σ 209 13 a) 209 12 (a + 1)) 209 14 v) 209 15 u c k = zup σ 209 13 a c k := fun v u c k q => by rw [zup_f (by omega), zup_f (by omega), zup_f (by omega)]
          have p12 : ∀ v u : Int, zup (zup (zup (zup σ 209 13 a) 209 12 (a + 1)) 209 14 v) 209 15 u 209 12 = a + 1 := fun v u => by rw [zup_f (by omega), zup_f (by omega), zup_t ⟨rfl, rfl, by decide⟩]
          have p13 : ∀ v u : Int, zup (zup (zup (zup σ 209 13 a) 209 12 (a + 1)) 209 14 v) 209 15 u 209 13 = a := fun v u => by rw [zup_f (by omega), zup_f (by omega), zup_f (by omega)]; exact g3
          have p14 : ∀ v u : Int, zup (zup (zup (zup σ 209 13 a) 209 12 (a + 1)) 209 14 v) 209 15 u 209 14 = v := fun v u => by rw [zup_f (by omega), zup_t ⟨rfl, rfl, by decide⟩]
          have p15 : ∀ v u : Int, zup (zup (zup (zup σ 209 13 a) 209 12 (a + 1)) 209 14 v) 209 15 u 209 15 = u := fun v u => zup_t ⟨rfl, rfl, by decide⟩
          by_cases c4 : B a = 45 ∨ B a = 40 ∨ B a = 44 ∨ B a = 41
          · refine ⟨zup (zup (zup (zup σ 209 13 a) 209 12 (a + 1)) 209 14 3) 209 15 (B a), ?_, ⟨tr _ (f _ _), p13 _ _, fun u => absurd u c1, fun u => absurd u c2, fun u => absurd u c3, fun _ => ⟨p14 _ _, p12 _ _, p15 _ _⟩, fun u => absurd c4 u.2.2.2⟩, fr _ (f _ _)⟩
            rcases c4 with c | c | c | c <;> rw [c] <;> rfl
          · refine ⟨zup (zup (zup (zup σ 209 13 a) 209 12 (a + 1)) 209 14 4) 209 15 (B a), ?_, ⟨tr _ (f _ _), p13 _ _, fun u => absurd u c1, fun u => absurd u c2, fun u => absurd u c3, fun u => absurd u c4, fun _ => ⟨p14 _ _, p12 _ _⟩⟩, fr _ (f _ _)⟩
            rw [if_neg (fun u => c4 (by omega)), if_neg (fun u => c4 (by omega)), if_neg (fun u => c4 (by omega)), if_neg (fun u => c4 (by omega))]
  intro m
  induction m with
  | zero =>
    intro a σ h h0 ha t e
    exact stop a σ h0 ha (fun u => by have := ysc_lt hB pbl_0 (pbl_i.2 u); omega) t e
  | succ m ih =>
    intro a σ h h0 ha t e
    by_cases c : B a = 32
    · have ez : zar 0 a 1 = a + 1 := by rw [za_0, zw32_i (by omega)]
      obtain ⟨σ', k1, k2, k3⟩ := ih (a + 1) (zup σ 209 12 (a + 1)) (by omega) (by omega) (by omega) (ytR_f (zup_f (by omega)) (fun k => zup_f (by omega)) t) (zup_t ⟨rfl, rfl, by decide⟩)
      have es : ysk n B a = ysk n B (a + 1) := ysc_t hB pbl_0 (pbl_i.2 c)
      refine ⟨σ', ?_, ?_, fun c k u => (k3 c k u).trans (zup_f (by omega))⟩
      · rw [hX12_next_0, e, s_298 w d hB t h0, Option.bind_some]
        dsimp only
        rw [if_pos c, e, ez]
        exact k1
      · unfold ytk at k2 ⊢
        rw [es]
        exact k2
    · exact stop a σ h0 ha c t e
theorem s_300 (w : zW) {d : Nat} (hd : 5 ≤ d) {n a : Int} {B : Int → Int} {σ : zMem} (hB : ytB n B) (t : ytR σ n B) (h0 : 0 ≤ a) (ha : a ≤ n) (e : σ 209 12 = a) :
    ∃ σ', zcall w d 300 [zA 13 32 209] σ = some (0, σ') ∧ ytk σ' n B a ∧ ∀ c k, (c ≠ 209 ∨ k < 12 ∨ 15 < k) → σ' c k = σ c k := by
  obtain ⟨d, rfl⟩ : ∃ e, d = e + 1 := ⟨d - 1, by omega⟩
  rw [(eX12_next w d σ).trans (hX12_next_0 w d σ).symm]
  exact l_300 w (by omega) hB _ a σ rfl h0 ha t e
/-- a sign that stands there, or not -/
theorem s_301 (w : zW) {d : Nat} (hd : 6 ≤ d) {n a c : Int} {B : Int → Int} {σ : zMem} (hB : ytB n B) (h0 : 0 ≤ a) (ha : a ≤ n) (t : ytk σ n B a) (hc : c = 45 ∨ c = 40 ∨ c = 44 ∨ c = 41) :
    (B (ysk n B a) ≠ c ∧ zcall w d 301 [zA 13 32 209, zI c] σ = some (0, σ)) ∨ (B (ysk n B a) = c ∧ ysk n B a + 1 ≤ n ∧ ∃ σ', zcall w d 301 [zA 13 32 209, zI c] σ = some (1, σ') ∧ ytk σ' n B (ysk n B a + 1) ∧ ∀ c k, (c ≠ 209 ∨ k < 12 ∨ 15 < k) → σ' c k = σ c k) := by
  obtain ⟨d, rfl⟩ : ∃ e, d = e + 1 := ⟨d - 1, by omega⟩
  obtain ⟨tR, t13, t0, t1, t2, t3, t4⟩ := t
  have b := ysk_b hB ha
  by_cases q : B (ysk n B a) = c
  · obtain ⟨k14, k12, k15⟩ := t3 (by omega)
    have lt : ysk n B a < n := Classical.byContradiction fun u => by have := hB.2.2.1 (ysk n B a) (by omega); omega
    obtain ⟨σ', m1, m2, m3⟩ := s_300 w (d := d) (by omega) hB tR (a := ysk n B a + 1) (by omega) (by omega) k12
    refine Or.inr ⟨q, by omega, σ', ?_, m2, m3⟩
    rw [eX12_isSign, if_pos k14, if_pos (k15.trans q), m1, Option.bind_some]
  · refine Or.inl ⟨q, ?_⟩
    rw [eX12_isSign]
    by_cases k14 : σ 209 14 = 3
    · by_cases s3 : B (ysk n B a) = 45 ∨ B (ysk n B a) = 40 ∨ B (ysk n B a) = 44 ∨ B (ysk n B a) = 41
      · rw [if_pos k14, if_neg (fun u => q ((t3 s3).2.2.symm.trans u))]
      · exfalso
        by_cases u0 : B (ysk n B a) = -1
        · have := (t0 u0).1; omega
        · by_cases u1 : 97 ≤ B (ysk n B a) ∧ B (ysk n B a) ≤ 122
          · have := (t1 u1).1; omega
          · by_cases u2 : 48 ≤ B (ysk n B a) ∧ B (ysk n B a) ≤ 57
            · have := (t2 u2).1; omega
            · have := (t4 ⟨u0, u1, u2, s3⟩).1; omega
    · rw [if_neg k14]
end
