section
/-! What numbers a kind may have: the class' question; all numbers at once -/
theorem s_31 (w : zW) {d : Nat} (hd : 2 ≤ d) {k i : Int} (a : Int) (hk : (3 ≤ k ∧ k ≤ 5) ∨ (11 ≤ k ∧ k ≤ 17)) (h0 : 0 ≤ i) (hi : i < zno k) (σ : zMem) (hx : k = 4 → 3 ≤ i → -40 ≤ σ a (i - 3)) : zcall w d 31 [zI k, zI i, zA 20 6 a] σ = some (ytm k i (σ a i) (zahead k i (σ a)), σ) := by
  obtain ⟨d, rfl⟩ : ∃ e, d = e + 1 := ⟨d - 1, by omega⟩
  have hz := zno_b k
  have : k = 3 ∨ k = 4 ∨ k = 5 ∨ k = 11 ∨ k = 12 ∨ k = 13 ∨ k = 14 ∨ k = 15 ∨ k = 16 ∨ k = 17 := by omega
  have hi6 : i < 6 := by omega
  have hb : (0 : Int) ≤ i ∧ i < 6 := ⟨h0, hi6⟩
  have hn : ¬ i < 0 := by omega
  have hd1 : 1 ≤ d := by omega
  rw [eX2_mayBe]
  simp only [if_neg hn, if_pos hi6, if_pos hb]
  rcases this with rfl | rfl | rfl | rfl | rfl | rfl | rfl | rfl | rfl | rfl
  · simp only [hX2_mayBe_14, s_32 w hd1, s_200, s_203, Option.bind_some, zt_01]
    have h4 : i < 4 := hi
    generalize σ a i = v
    by_cases c : i < 3
    · simp only [if_pos c]
      rw [← ytm_z (P := -40 ≤ v ∧ v ≤ 55) (by simp [zmay]; omega)]
      rfl
    · simp only [if_neg c]
      rw [← ytm_z (P := 0 ≤ v ∧ v ≤ 40) (by simp [zmay]; omega)]
      rfl
  · simp only [hX2_mayBe_25, s_32 w hd1, Option.bind_some, zt_if]
    have ea : 3 ≤ i → zahead 4 i (σ a) = σ a (i - 3) := fun u => if_pos ⟨rfl, u⟩
    have e : zar 1 i 3 = i - 3 := by rw [za_1, zw32_i (by omega)]
    have h0' : (if (4 : Int) = 3 then zden w (d + 1) 31 14 [zI 4, zI i, zA 20 6 a, zI (σ a i)] [] σ else if -40 ≤ σ a i ∧ σ a i ≤ 55 then if i < 3 then some (1, σ) else if (0 : Int) ≤ zar 1 i 3 ∧ zar 1 i 3 < 6 then if σ a i < σ a (zar 1 i 3) then some (0, σ) else some (1, σ) else none else some (0, σ)) = some (ytm 4 i (σ a i) (zahead 4 i (σ a)), σ) := by
      rw [if_neg (by decide)]
      have z1 : ∀ v f : Int, i < 3 → (zmay 4 i v f ↔ -40 ≤ v ∧ v ≤ 55) := fun v f u => by simp [zmay, u]
      have z2 : ∀ v f : Int, ¬ i < 3 → (zmay 4 i v f ↔ f ≤ v ∧ v ≤ 55) := fun v f u => by simp [zmay, u]
      by_cases c : -40 ≤ σ a i ∧ σ a i ≤ 55
      · rw [if_pos c]
        by_cases c1 : i < 3
        · rw [if_pos c1, ytm_p ((z1 _ _ c1).2 c)]
        · rw [if_neg c1, e, if_pos (by omega), ea (by omega)]
          by_cases c2 : σ a i < σ a (i - 3)
          · rw [if_pos c2, ytm_n (fun u => by have := (z2 _ _ c1).1 u; omega)]
          · rw [if_neg c2, ytm_p ((z2 _ _ c1).2 (by omega))]
      · rw [if_neg c]
        by_cases c1 : i < 3
        · rw [ytm_n (fun u => c ((z1 _ _ c1).1 u))]
        · have := hx rfl (by omega)
          rw [ea (by omega), ytm_n (fun u => by have := (z2 _ _ c1).1 u; omega)]
    exact h0'
  · simp only [hX2_mayBe_42, s_32 w hd1, s_200, s_203, Option.bind_some, zt_01]
    have h4 : i < 4 := hi
    generalize σ a i = v
    by_cases c : i < 3
    · simp only [if_pos c]
      rw [← ytm_z (P := -9 ≤ v ∧ v ≤ 9) (by simp [zmay]; omega)]
      rfl
    · simp only [if_neg c]
      rw [← ytm_z (P := -999 ≤ v ∧ v ≤ 999) (by simp [zmay]; omega)]
      rfl
  · have h4 : i < 2 := hi
    have ea : zahead 11 i (σ a) = σ a 0 := if_neg (fun u => absurd u.1 (by decide))
    simp only [hX2_mayBe_55, s_200, Option.bind_some, zt_01]
    by_cases c : i = 0
    · simp only [if_pos c]
      rw [← ytm_z (P := 1 ≤ σ a i ∧ σ a i ≤ 9) (by simp [zmay, c])]
      rfl
    · simp only [if_neg c]
      rw [← ytm_z (P := 0 ≤ σ a i ∧ σ a i ≤ σ a 0) (by rw [ea]; simp [zmay, c])]
      rfl
  · have h4 : i < 3 := hi
    simp only [hX2_mayBe_69, s_32 w hd1, Option.bind_some, zt_01]
    rw [← ytm_z (P := -40 ≤ σ a i ∧ σ a i ≤ 55) (by simp [zmay])]
    rfl
  · have h4 : i < 2 := hi
    simp only [hX2_mayBe_72, s_200, s_203, Option.bind_some, zt_01]
    by_cases c : i = 0
    · simp only [if_pos c]
      rw [← ytm_z (P := 0 ≤ σ a i ∧ σ a i < 3) (by simp [zmay, c]; omega)]
      rfl
    · simp only [if_neg c]
      rw [← ytm_z (P := 1 ≤ σ a i ∧ σ a i ≤ 16) (by simp [zmay, c])]
      rfl
  · have h4 : i < 2 := hi
    simp only [hX2_mayBe_82, s_200, s_203, Option.bind_some, zt_01]
    by_cases c : i = 0
    · simp only [if_pos c]
      rw [← ytm_z (P := 0 ≤ σ a i ∧ σ a i < 3) (by simp [zmay, c]; omega)]
      rfl
    · simp only [if_neg c]
      rw [← ytm_z (P := 0 ≤ σ a i ∧ σ a i ≤ 15) (by simp [zmay, c])]
      rfl
  · have h4 : i < 2 := hi
    have ea : zahead 15 i (σ a) = σ a 0 := if_neg (fun u => absurd u.1 (by decide))
    have e9 : zden w (d + 1) 31 92 [zI 15, zI i, zA 20 6 a, zI (σ a i)] [] σ = some (ytm 15 i (σ a i) (zahead 15 i (σ a)), σ) := by
      rw [hX2_mayBe_92, s_203, Option.bind_some, ea, ← ytm_z (P := (0 ≤ σ a i ∧ σ a i ≤ 2) ∧ (i = 0 ∨ σ a i ≠ σ a 0)) (by simp [zmay])]
      dsimp only
      rw [zt_if]
      by_cases c : 0 ≤ σ a i ∧ σ a i < 3
      · rw [if_pos c]
        by_cases c1 : i = 0
        · rw [if_pos c1, zt_p ⟨by omega, Or.inl c1⟩]
        · rw [if_neg c1, if_pos (by decide)]
          by_cases c2 : σ a i = σ a 0
          · rw [if_pos c2, zt_n (fun q => q.2.elim c1 (fun g => g c2))]
          · rw [if_neg c2, zt_p ⟨by omega, Or.inr c2⟩]
      · rw [if_neg c, zt_n (fun q => c (by omega))]
    exact e9
  · have h4 : i < 2 := hi
    simp only [hX2_mayBe_106, s_200, Option.bind_some, zt_01]
    by_cases c : i = 0
    · simp only [if_pos c]
      rw [← ytm_z (P := -99 ≤ σ a i ∧ σ a i ≤ 99) (by simp [zmay, c])]
      rfl
    · have c' : i = 1 := by omega
      simp only [if_neg c]
      rw [← ytm_z (P := 1 ≤ σ a i ∧ σ a i ≤ 9) (by simp [zmay, c'])]
      rfl
  · have h4 : i < 2 := hi
    simp only [hX2_mayBe_118, s_200, Option.bind_some, zt_01]
    by_cases c : i = 0
    · simp only [if_pos c]
      rw [← ytm_z (P := 0 ≤ σ a i ∧ σ a i ≤ 99) (by simp [zmay, c])]
      rfl
    · have c' : i = 1 := by omega
      simp only [if_neg c]
      rw [← ytm_z (P := 1 ≤ σ a i ∧ σ a i ≤ 9) (by simp [zmay, c'])]
      rfl
noncomputable def ynv (k : Int) (N : Int → Int) : Int := @zt (zNV k N) (Classical.propDecidable _)
theorem ynv_p {k : Int} {N : Int → Int} (h : zNV k N) : ynv k N = 1 := if_pos h
theorem ynv_n {k : Int} {N : Int → Int} (h : ¬ zNV k N) : ynv k N = 0 := if_neg h
theorem ynv_c {k : Int} {N N' : Int → Int} (h : ∀ i : Int, 0 ≤ i → i < zno k → N' i = N i) : ynv k N' = ynv k N := by
  have key : zNV k N' ↔ zNV k N := by
    have a : ∀ i : Int, 0 ≤ i → i < zno k → zahead k i N' = zahead k i N := by
      intro i i0 i1
      unfold zahead
      by_cases c : k = 4 ∧ 3 ≤ i
      · rw [if_pos c, if_pos c, h _ (by omega) (by omega)]
      · rw [if_neg c, if_neg c, h 0 (by decide) (by omega)]
    exact ⟨fun t i i0 i1 => by rw [← h i i0 i1, ← a i i0 i1]; exact t i i0 i1, fun t i i0 i1 => by rw [h i i0 i1, a i i0 i1]; exact t i i0 i1⟩
  by_cases c : zNV k N
  · rw [ynv_p c, ynv_p (key.2 c)]
  · rw [ynv_n c, ynv_n (fun u => c (key.1 u))]
theorem l_30 (w : zW) {d : Nat} (hd : 2 ≤ d) {k a : Int} (hk : (3 ≤ k ∧ k ≤ 5) ∨ (8 ≤ k ∧ k ≤ 17)) (σ : zMem) : ∀ (m : Nat) (i : Int), 0 ≤ i → i + m = zno k → (∀ j : Int, 0 ≤ j → j < i → zmay k j (σ a j) (zahead k j (σ a))) →
    zden w (d + 1) 30 2 [zI k, zA 20 6 a, zI i] [] σ = some (ynv k (σ a), σ) := by
  intro m
  induction m with
  | zero =>
    intro i h0 h hj
    rw [hX2_allMayBe_2, s_29 w d hk, Option.bind_some]
    dsimp only
    rw [if_neg (by omega), ynv_p (fun j j0 j1 => hj j j0 (by omega))]
  | succ m ih =>
    intro i h0 h hj
    have hz := zno_b k
    have hk' : (3 ≤ k ∧ k ≤ 5) ∨ (11 ≤ k ∧ k ≤ 17) := by
      rcases hk with u | u
      · exact Or.inl u
      · by_cases c : k < 11
        · have : zno k = 0 := by
            have : k = 8 ∨ k = 9 ∨ k = 10 := by omega
            rcases this with rfl | rfl | rfl <;> rfl
          omega
        · exact Or.inr (by omega)
    have e1 : zar 0 i 1 = i + 1 := by rw [za_0, zw32_i (by omega)]
    rw [hX2_allMayBe_2, s_29 w d hk, Option.bind_some]
    dsimp only
    rw [if_pos (by omega), s_31 w hd a hk' h0 (by omega) σ (fun u v => by
      subst u
      have := hj (i - 3) (by omega) (by omega)
      have h6 : zno 4 = 6 := rfl
      unfold zmay at this
      rw [if_neg (by decide), if_pos rfl, if_pos (by omega)] at this
      exact this.1), Option.bind_some]
    dsimp only
    rw [e1]
    by_cases c : zmay k i (σ a i) (zahead k i (σ a))
    · rw [ytm_p c, if_neg (by decide)]
      refine ih (i + 1) (by omega) (by omega) (fun j j0 j1 => ?_)
      by_cases e : j = i
      · rw [e]; exact c
      · exact hj j j0 (by omega)
    · rw [ytm_n c, if_pos rfl, ynv_n (fun t => c (t i h0 (by omega)))]
theorem s_30 (w : zW) {d : Nat} (hd : 3 ≤ d) {k a : Int} (hk : (3 ≤ k ∧ k ≤ 5) ∨ (8 ≤ k ∧ k ≤ 17)) (σ : zMem) : zcall w d 30 [zI k, zA 20 6 a] σ = some (ynv k (σ a), σ) := by
  obtain ⟨d, rfl⟩ : ∃ e, d = e + 1 := ⟨d - 1, by omega⟩
  have := zno_b k
  rw [eX2_allMayBe]
  exact l_30 w (by omega) hk σ (zno k).toNat 0 (by decide) (by omega) (fun j a b => by omega)
theorem l_277 (w : zW) {d : Nat} (hd : 2 ≤ d) {k : Int} (hk : (3 ≤ k ∧ k ≤ 5) ∨ (8 ≤ k ∧ k ≤ 17)) (σ : zMem) : ∀ (m : Nat) (i : Int), 0 ≤ i → i + m = zno k → (∀ j : Int, 0 ≤ j → j < i → zmay k j (σ 221 j) (zahead k j (σ 221))) →
    zden w (d + 1) 277 2 [zA 13 32 209, zI k, zI i] [] σ = some (ynv k (σ 221), σ) := by
  intro m
  induction m with
  | zero =>
    intro i h0 h hj
    rw [hX12_areNumbers_2, s_276, Option.bind_some]
    dsimp only
    rw [if_neg (by omega), ynv_p (fun j j0 j1 => hj j j0 (by omega))]
  | succ m ih =>
    intro i h0 h hj
    have hz := zno_b k
    have hk' : (3 ≤ k ∧ k ≤ 5) ∨ (11 ≤ k ∧ k ≤ 17) := by
      rcases hk with u | u
      · exact Or.inl u
      · by_cases c : k < 11
        · have : zno k = 0 := by
            have : k = 8 ∨ k = 9 ∨ k = 10 := by omega
            rcases this with rfl | rfl | rfl <;> rfl
          omega
        · exact Or.inr (by omega)
    have e1 : zar 0 i 1 = i + 1 := by rw [za_0, zw32_i (by omega)]
    have e2 : zcall w d 275 [zA 20 6 221, zI k, zI i] σ = some (zahead k i (σ 221), σ) := by
      have e3 : zar 1 i 3 = i - 3 := by rw [za_1, zw32_i (by omega)]
      rw [eX12_aheadOf, zahead, e3]
      by_cases c : k = 4
      · rw [if_pos c]
        by_cases c2 : i < 3
        · rw [if_pos c2, if_pos (by decide), if_neg (by omega)]
        · rw [if_neg c2, if_pos (by omega), if_pos ⟨c, by omega⟩]
      · rw [if_neg c, if_pos (by decide), if_neg (fun u => c u.1)]
    rw [hX12_areNumbers_2, s_276, Option.bind_some]
    dsimp only
    rw [if_pos (by omega), if_pos (by omega), e2, Option.bind_some]
    dsimp only
    rw [s_274 w (by omega) _ _ hk', Option.bind_some]
    dsimp only
    rw [e1]
    by_cases c : zmay k i (σ 221 i) (zahead k i (σ 221))
    · rw [ytm_p c, if_neg (by decide)]
      refine ih (i + 1) (by omega) (by omega) (fun j j0 j1 => ?_)
      by_cases e : j = i
      · rw [e]; exact c
      · exact hj j j0 (by omega)
    · rw [ytm_n c, if_pos rfl, ynv_n (fun t => c (t i h0 (by omega)))]
theorem s_277 (w : zW) {d : Nat} (hd : 3 ≤ d) {k : Int} (hk : (3 ≤ k ∧ k ≤ 5) ∨ (8 ≤ k ∧ k ≤ 17)) (σ : zMem) : zcall w d 277 [zA 13 32 209, zI k] σ = some (ynv k (σ 221), σ) := by
  obtain ⟨d, rfl⟩ : ∃ e, d = e + 1 := ⟨d - 1, by omega⟩
  have := zno_b k
  rw [eX12_areNumbers]
  exact l_277 w (by omega) hk σ (zno k).toNat 0 (by decide) (by omega) (fun j a b => by omega)
/-! how deep, how many blends a new shape would have -/
def ydp (T : Int → Int) (k p q : Int) : Int := if k ≤ 5 then 0 else 1 + max (T (11 * p + 3)) (if q < 0 then 0 else T (11 * q + 3))
def ybd (T : Int → Int) (k p q : Int) : Int := (if k ≤ 5 then 0 else max (T (11 * p + 4)) (if q < 0 then 0 else T (11 * q + 4))) + (if k = 11 then 1 else 0)
/-- of which shapes a kind may be made -/
def ypq (n k p q : Int) : Prop := (3 ≤ k ∧ k ≤ 5 ∧ p = -1 ∧ q = -1) ∨ (8 ≤ k ∧ k ≤ 11 ∧ (0 ≤ p ∧ p < n) ∧ 0 ≤ q ∧ q < n) ∨ (12 ≤ k ∧ k ≤ 17 ∧ (0 ≤ p ∧ p < n) ∧ q = -1)
theorem ydp_b {T : Int → Int} {n k p q : Int} (hT : zWF T n) (h : ypq n k p q) : 0 ≤ ydp T k p q ∧ ydp T k p q ≤ 7 ∧ 0 ≤ ybd T k p q ∧ ybd T k p q ≤ 3 := by
  unfold ydp ybd
  rcases h with ⟨a, b, rfl, rfl⟩ | ⟨a, b, hp, hq⟩ | ⟨a, b, hp, rfl⟩
  · rw [if_pos b, if_pos b]; split <;> omega
  · have g1 := (hT.2.2 p hp.1 hp.2).2
    have g2 := (hT.2.2 q hq.1 hq.2).2
    have e1 : ¬ k ≤ 5 := by omega
    have e2 : ¬ q < 0 := by omega
    simp only [if_neg e1, if_neg e2]
    split <;> omega
  · have g1 := (hT.2.2 p hp.1 hp.2).2
    have e1 : ¬ k ≤ 5 := by omega
    have e2 : (-1 : Int) < 0 := by decide
    simp only [if_neg e1, if_pos e2]
    split <;> omega
theorem s_115 (w : zW) (d : Nat) {T : Int → Int} {n s : Int} {σ : zMem} (hT : zWF T n) (hTb : zTb 2 σ T n) (h : s = -1 ∨ (0 ≤ s ∧ s < n)) : zcall w d 115 [zA 10 8 2, zI s] σ = some (if s < 0 then 0 else T (11 * s + 3), σ) ∧ zcall w d 117 [zA 10 8 2, zI s] σ = some (if s < 0 then 0 else T (11 * s + 4), σ) ∧ zcall w d 116 [zA 10 8 2, zI s] σ = some (if s < 0 then 0 else zsolN T 7 s, σ) := by
  rw [eX9_deepOf, eX9_blendsOf, eX9_solidsOf]
  have hn := hT.2.1
  have r1 : zR w 2 3 = 6 := rfl
  have r2 : zR w 2 4 = 7 := rfl
  have r3 : zR w 2 5 = 8 := rfl
  rcases h with rfl | h
  · exact ⟨rfl, rfl, rfl⟩
  · have t := hTb.2 s h.1 h.2
    rw [if_neg (by omega), if_pos (by omega), if_pos (by omega), if_neg (by omega), if_neg (by omega), if_pos (by omega), if_pos (by omega), if_neg (by omega), if_neg (by omega), if_pos (by omega), if_pos (by omega), if_neg (by omega), r1, r2, r3, ← t.2.2.2.1, ← t.2.2.2.2.1, ← t.2.2.2.2.2.1]
    exact ⟨rfl, rfl, rfl⟩
theorem s_120 (w : zW) {d : Nat} (hd : 1 ≤ d) {T : Int → Int} {n k p q : Int} {σ : zMem} (hT : zWF T n) (hTb : zTb 2 σ T n) (h : ypq n k p q) : zcall w d 120 [zA 10 8 2, zI k, zI p, zI q] σ = some (ydp T k p q, σ) ∧ zcall w d 121 [zA 10 8 2, zI k, zI p, zI q] σ = some (ybd T k p q, σ) := by
  obtain ⟨d, rfl⟩ : ∃ e, d = e + 1 := ⟨d - 1, by omega⟩
  have b := ydp_b hT h
  have hp : p = -1 ∨ (0 ≤ p ∧ p < n) := by unfold ypq at h; omega
  have hq : q = -1 ∨ (0 ≤ q ∧ q < n) := by unfold ypq at h; omega
  obtain ⟨p1, p2, -⟩ := s_115 w d (σ := σ) hT hTb hp
  obtain ⟨q1, q2, -⟩ := s_115 w d (σ := σ) hT hTb hq
  rw [eX9_deepOver, eX9_blendsOver]
  simp only [s_27, p1, q1, p2, q2, Option.bind_some, s_341, zt_if]
  unfold ydp ybd at b ⊢
  by_cases ck : k ≤ 5
  · have : p = -1 ∧ q = -1 ∧ 3 ≤ k := by unfold ypq at h; omega
    obtain ⟨rfl, rfl, h3⟩ := this
    rw [if_pos (by omega), if_pos ck, if_neg (by omega), if_pos ck, if_neg (show ¬ k = 11 by omega), if_pos (by decide)]
    exact ⟨rfl, by rw [za_0, zw32_i (by decide)]; rfl⟩
  · have : 0 ≤ p ∧ ¬ (3 ≤ k ∧ k ≤ 5) := by unfold ypq at h; omega
    obtain ⟨h3, h4⟩ := this
    rw [if_neg ck, if_neg ck] at b
    rw [if_neg h4, if_neg ck, if_neg ck, if_neg (show ¬ p < 0 by omega), if_neg (show ¬ p < 0 by omega), za_0, za_0, za_0]
    generalize (if q < 0 then (0 : Int) else T (11 * q + 3)) = A at *
    generalize (if q < 0 then (0 : Int) else T (11 * q + 4)) = B at *
    refine ⟨by rw [zw32_i (by omega)], ?_⟩
    by_cases c : k = 11
    · rw [if_pos c] at b
      rw [if_pos c, if_pos c, zw32_i (by omega), Int.add_comm]
    · rw [if_neg c] at b
      rw [if_neg c, if_neg c, zw32_i (by omega), Int.add_comm]
theorem s_119 (w : zW) {d : Nat} (hd : 2 ≤ d) {T : Int → Int} {n k p q : Int} {σ : zMem} (hT : zWF T n) (hTb : zTb 2 σ T n) (h : ypq n k p q) : zcall w d 119 [zA 10 8 2, zI k, zI p, zI q] σ = some (zt (6 < ydp T k p q ∨ 2 < ybd T k p q), σ) := by
  obtain ⟨d, rfl⟩ : ∃ e, d = e + 1 := ⟨d - 1, by omega⟩
  obtain ⟨e1, e2⟩ := s_120 w (d := d) (by omega) hT hTb h
  rw [eX9_isTooDeep, e1, Option.bind_some]
  dsimp only
  rw [e2, Option.bind_some, zt]
  dsimp only
  (repeat' split) <;> first | rfl | (exfalso; omega)
theorem s_278 (w : zW) {d : Nat} (hd : 1 ≤ d) {n k p q : Int} {σ : zMem} (hT : zWF (σ 210) n) (h : ypq n k p q) : zcall w d 278 [zA 13 32 209, zI k, zI p, zI q] σ = some (ydp (σ 210) k p q, σ) ∧ zcall w d 279 [zA 13 32 209, zI k, zI p, zI q] σ = some (ybd (σ 210) k p q, σ) := by
  obtain ⟨d, rfl⟩ : ∃ e, d = e + 1 := ⟨d - 1, by omega⟩
  have b := ydp_b hT h
  have hn := hT.2.1
  rw [eX12_deepBy, eX12_blendsBy]
  unfold ydp ybd at b ⊢
  by_cases ck : k ≤ 5
  · have n1 : ¬ 5 < k := by omega
    have n2 : ¬ k = 11 := by omega
    have z : zar 0 0 0 = 0 := by rw [za_0, zw32_i (by decide)]; rfl
    simp only [if_neg n1, if_neg n2, if_pos ck, z]
    exact ⟨trivial, rfl⟩
  · have n1 : 5 < k := by omega
    have hp : 0 ≤ p ∧ p < 24 := by unfold ypq at h; omega
    have d3 := s_216 w d hp (show (0 : Int) ≤ 3 ∧ (3 : Int) < 11 by decide) σ
    have d4 := s_216 w d hp (show (0 : Int) ≤ 4 ∧ (4 : Int) < 11 by decide) σ
    by_cases cq : q < 0
    · simp only [if_neg ck, if_pos cq] at b
      simp only [if_pos n1, if_neg ck, if_pos cq, d3, d4, Option.bind_some, s_341]
      refine ⟨by rw [za_0, zw32_i (by omega)], ?_⟩
      by_cases c : k = 11
      · rw [if_pos c] at b; rw [if_pos c, if_pos c, za_0, zw32_i (by omega)]
      · rw [if_neg c] at b; rw [if_neg c, if_neg c, za_0, zw32_i (by omega)]
    · have hq : 0 ≤ q ∧ q < 24 := by unfold ypq at h; omega
      have e3 := s_216 w d hq (show (0 : Int) ≤ 3 ∧ (3 : Int) < 11 by decide) σ
      have e4 := s_216 w d hq (show (0 : Int) ≤ 4 ∧ (4 : Int) < 11 by decide) σ
      simp only [if_neg ck, if_neg cq] at b
      simp only [if_pos n1, if_neg ck, if_neg cq, d3, d4, e3, e4, Option.bind_some, s_341]
      refine ⟨by rw [za_0, zw32_i (by omega)], ?_⟩
      by_cases c : k = 11
      · rw [if_pos c] at b; rw [if_pos c, if_pos c, za_0, zw32_i (by omega)]
      · rw [if_neg c] at b; rw [if_neg c, if_neg c, za_0, zw32_i (by omega)]
theorem s_280 (w : zW) {d : Nat} (hd : 2 ≤ d) {n k p q : Int} {σ : zMem} (hT : zWF (σ 210) n) (h : ypq n k p q) : zcall w d 280 [zA 13 32 209, zI k, zI p, zI q] σ = some (zt (6 < ydp (σ 210) k p q ∨ 2 < ybd (σ 210) k p q), σ) := by
  obtain ⟨d, rfl⟩ : ∃ e, d = e + 1 := ⟨d - 1, by omega⟩
  obtain ⟨e1, e2⟩ := s_278 w (d := d) (by omega) hT h
  rw [eX12_isTooDeep, e1, Option.bind_some]
  dsimp only
  rw [e2, Option.bind_some, zt]
  dsimp only
  (repeat' split) <;> first | rfl | (exfalso; omega)
end
