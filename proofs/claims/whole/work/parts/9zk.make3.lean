section
/-! A new shape: both programs' ways to it -/
theorem zalk_n {σ σ' : zMem} (h : ∀ a t, a ≠ 206 → a ≠ 221 → σ' a t = σ a t) : zalk σ σ' := fun a k q => h a k (by unfold zsX zsT zsC zsK zsB zsS zsP zsR at q; omega) (by unfold zsX zsT zsC zsK zsB zsS zsP zsR at q; omega)
theorem s_160 (w : zW) {d : Nat} (hd : 2 ≤ d) {n : Int} {σ : zMem} (hn : 0 ≤ n ∧ n < 24) (e : σ 2 7 = n) : zcall w d 160 [zA 12 16 1, zI 1] σ = some (n, zup (yfm 87 (fun _ => 0) n 24 σ) 2 7 (n + 1)) := by
  obtain ⟨d, rfl⟩ : ∃ e, d = e + 1 := ⟨d - 1, by omega⟩
  have e2 : yfm 87 (fun _ => 0) n 24 σ 2 7 = n := by rw [yfm_f (by omega)]; exact e
  have e3 : zar 0 n 1 = n + 1 := by rw [za_0, zw32_i (by omega)]
  have e4 : zar 1 (n + 1) 1 = n := by rw [za_1, zw32_i (by omega)]; omega
  rw [eX11_added, s_110, Option.bind_some]
  dsimp only
  rw [e, s_36 w (by omega) (by omega), Option.bind_some]
  dsimp only
  rw [s_110, Option.bind_some]
  dsimp only
  rw [e2, e3, eX9_resize, Option.bind_some]
  dsimp only
  rw [s_110, Option.bind_some]
  dsimp only
  rw [zup_t ⟨rfl, rfl, by decide⟩, e4]
/-- the class' refusals and its making of a shape -/
theorem s_159 (w : zW) {n k p q : Int} {μ : zMem} (hI : zInv μ) (en : μ 209 1 = n) (hk : (3 ≤ k ∧ k ≤ 5 ∧ p = -1 ∧ q = -1) ∨ (8 ≤ k ∧ k ≤ 11 ∧ 0 ≤ q ∧ q < n) ∨ (12 ≤ k ∧ k ≤ 17 ∧ q = -1)) :
    (¬ (ypq n k p q ∧ zNV k (μ 206)) ∧ zcall w 998 159 [zA 12 16 1, zI k, zI p, zI q] μ = some (-62, zrA μ (-62)))
    ∨ (ypq n k p q ∧ zNV k (μ 206) ∧ (6 < ydp (μ 210) k p q ∨ 2 < ybd (μ 210) k p q) ∧ zcall w 998 159 [zA 12 16 1, zI k, zI p, zI q] μ = some (-65, zrA μ (-65)))
    ∨ (ypq n k p q ∧ zNV k (μ 206) ∧ ¬ (6 < ydp (μ 210) k p q ∨ 2 < ybd (μ 210) k p q) ∧ n = 24 ∧ zcall w 998 159 [zA 12 16 1, zI k, zI p, zI q] μ = some (-66, zrA μ (-66)))
    ∨ (ypq n k p q ∧ zNV k (μ 206) ∧ ¬ (6 < ydp (μ 210) k p q ∨ 2 < ybd (μ 210) k p q) ∧ n < 24 ∧ ∃ σ', zcall w 998 159 [zA 12 16 1, zI k, zI p, zI q] μ = some (n, zup (yfm 87 (fun _ => 0) n 24 σ') 2 7 (n + 1)) ∧ σ' 3 n = k ∧ σ' 4 n = p ∧ σ' 5 n = q ∧ σ' 6 n = ydp (μ 210) k p q ∧ σ' 7 n = ybd (μ 210) k p q ∧ σ' 8 n = yso (μ 210) k p q ∧ (∀ t, 0 ≤ t → t < 6 → σ' 9 (6 * n + t) = μ 206 t)
      ∧ (∀ a t, ¬ (3 ≤ a ∧ a ≤ 9) → σ' a t = μ a t) ∧ (∀ a t, 3 ≤ a → a ≤ 8 → t ≠ n → σ' a t = μ a t) ∧ ∀ t, t < 6 * n → σ' 9 t = μ 9 t) := by
  obtain ⟨hT, hTb⟩ := hI.2.1
  rw [en] at hT hTb
  have h24 := hT.2.1
  have h0 := hT.1
  have e7 : μ 2 7 = n := hTb.1
  have bad := fun (m : Int) (hm : -66 ≤ m ∧ m ≤ -62) => s_194 w 997 hm μ
  have hk' : (3 ≤ k ∧ k ≤ 5) ∨ (8 ≤ k ∧ k ≤ 17) := by omega
  have e30 := s_30 w (d := 997) (a := 206) (by decide) hk' μ
  /- what comes behind the first question -/
  have rest : ypq n k p q → ∀ F : Option (Int × zMem), F = (zcall w 997 30 [zI k, zA 20 6 206] μ).bind (fun r4 => if r4.1 = 0 then (zcall w 997 194 [zA 12 16 1, zI (-62)] r4.2).bind fun r5 => some (r5.1, r5.2) else (zcall w 997 119 [zA 10 8 2, zI k, zI p, zI q] r4.2).bind fun r6 => if r6.1 = 0 then (zcall w 997 110 [zA 10 8 2] r6.2).bind fun r7 => if r7.1 < 24 then (zcall w 997 110 [zA 10 8 2] r7.2).bind fun r8 => (zcall w 997 122 [zA 10 8 2, zI r8.1, zI k, zI p, zI q, zA 20 6 206] r8.2).bind fun r9 => (zcall w 997 160 [zA 12 16 1, zI 1] r9.2).bind fun r10 => some (r10.1, r10.2) else (zcall w 997 194 [zA 12 16 1, zI (-66)] r7.2).bind fun r11 => some (r11.1, r11.2) else (zcall w 997 194 [zA 12 16 1, zI (-65)] r6.2).bind fun r12 => some (r12.1, r12.2)) →
      (¬ (ypq n k p q ∧ zNV k (μ 206)) ∧ F = some (-62, zrA μ (-62)))
      ∨ (ypq n k p q ∧ zNV k (μ 206) ∧ (6 < ydp (μ 210) k p q ∨ 2 < ybd (μ 210) k p q) ∧ F = some (-65, zrA μ (-65)))
      ∨ (ypq n k p q ∧ zNV k (μ 206) ∧ ¬ (6 < ydp (μ 210) k p q ∨ 2 < ybd (μ 210) k p q) ∧ n = 24 ∧ F = some (-66, zrA μ (-66)))
      ∨ (ypq n k p q ∧ zNV k (μ 206) ∧ ¬ (6 < ydp (μ 210) k p q ∨ 2 < ybd (μ 210) k p q) ∧ n < 24 ∧ ∃ σ', F = some (n, zup (yfm 87 (fun _ => 0) n 24 σ') 2 7 (n + 1)) ∧ σ' 3 n = k ∧ σ' 4 n = p ∧ σ' 5 n = q ∧ σ' 6 n = ydp (μ 210) k p q ∧ σ' 7 n = ybd (μ 210) k p q ∧ σ' 8 n = yso (μ 210) k p q ∧ (∀ t, 0 ≤ t → t < 6 → σ' 9 (6 * n + t) = μ 206 t)
        ∧ (∀ a t, ¬ (3 ≤ a ∧ a ≤ 9) → σ' a t = μ a t) ∧ (∀ a t, 3 ≤ a → a ≤ 8 → t ≠ n → σ' a t = μ a t) ∧ ∀ t, t < 6 * n → σ' 9 t = μ 9 t) := by
    intro hp F hF
    rw [e30, Option.bind_some] at hF
    dsimp only at hF
    by_cases cN : zNV k (μ 206)
    · rw [ynv_p cN, if_neg (by decide), s_119 w (by decide) hT hTb hp, Option.bind_some] at hF
      dsimp only at hF
      rw [zt_if] at hF
      by_cases cD : 6 < ydp (μ 210) k p q ∨ 2 < ybd (μ 210) k p q
      · rw [if_pos cD, bad (-65) (by decide)] at hF
        exact Or.inr (Or.inl ⟨hp, cN, cD, hF⟩)
      · rw [if_neg cD, s_110, Option.bind_some] at hF
        dsimp only at hF
        rw [e7] at hF
        by_cases c24 : n < 24
        · obtain ⟨σ', k1, k2⟩ := s_122 w (d := 997) (by decide) hT c24 hTb hp
          have e7' : σ' 2 7 = n := (k2.2.2.2.2.2.2.2.1 2 7 (by decide)).trans e7
          rw [if_pos c24, s_110, Option.bind_some] at hF
          dsimp only at hF
          rw [e7, k1, Option.bind_some] at hF
          dsimp only at hF
          rw [s_160 w (by decide) ⟨h0, c24⟩ e7'] at hF
          exact Or.inr (Or.inr (Or.inr ⟨hp, cN, cD, c24, σ', hF, k2⟩))
        · rw [if_neg c24, bad (-66) (by decide)] at hF
          exact Or.inr (Or.inr (Or.inl ⟨hp, cN, cD, by omega, hF⟩))
    · rw [ynv_n cN, if_pos rfl, bad (-62) (by decide)] at hF
      exact Or.inl ⟨fun u => cN u.2, hF⟩
  have e159 := eX11_built w 997 k p q μ
  rw [s_27, Option.bind_some] at e159
  dsimp only at e159
  rw [zt_if] at e159
  by_cases cs : 3 ≤ k ∧ k ≤ 5
  · rw [if_pos cs] at e159
    exact rest (Or.inl (by omega)) _ e159
  · rw [if_neg cs, s_197 w (by decide), Option.bind_some] at e159
    dsimp only at e159
    rw [zt_if, e7] at e159
    by_cases cp : 0 ≤ p ∧ p < n
    · rw [if_pos cp] at e159
      exact rest (by unfold ypq; omega) _ e159
    · rw [if_neg cp, bad (-62) (by decide)] at e159
      exact Or.inl ⟨fun u => by have := u.1; unfold ypq at this; omega, e159⟩
/-- the reference's -/
theorem s_282 (w : zW) {n k p q : Int} {ν : zMem} (hT : zWF (ν 210) n) (en : ν 209 1 = n) (hk : (3 ≤ k ∧ k ≤ 5 ∧ p = -1 ∧ q = -1) ∨ (8 ≤ k ∧ k ≤ 11) ∨ (12 ≤ k ∧ k ≤ 17 ∧ q = -1)) :
    (¬ (ypq n k p q ∧ zNV k (ν 221)) → zcall w 998 282 [zA 13 32 209, zI k, zI p, zI q] ν = some (-62, zrB ν (-62)))
    ∧ (ypq n k p q → zNV k (ν 221) → (6 < ydp (ν 210) k p q ∨ 2 < ybd (ν 210) k p q) → zcall w 998 282 [zA 13 32 209, zI k, zI p, zI q] ν = some (-65, zrB ν (-65)))
    ∧ (ypq n k p q → zNV k (ν 221) → ¬ (6 < ydp (ν 210) k p q ∨ 2 < ybd (ν 210) k p q) → n = 24 → zcall w 998 282 [zA 13 32 209, zI k, zI p, zI q] ν = some (-66, zrB ν (-66)))
    ∧ (ypq n k p q → zNV k (ν 221) → ¬ (6 < ydp (ν 210) k p q ∨ 2 < ybd (ν 210) k p q) → n < 24 → zcall w 998 282 [zA 13 32 209, zI k, zI p, zI q] ν = (zcall w 997 281 [zA 13 32 209, zI k, zI p, zI q, zI (ydp (ν 210) k p q), zI (ybd (ν 210) k p q), zA 20 6 221, zI 0] ν).bind fun r9 => some (r9.1, r9.2)) := by
  have h24 := hT.2.1
  have h0 := hT.1
  have bad := fun (m : Int) (hm : -66 ≤ m ∧ m ≤ -62) => s_214 w 997 hm ν
  have e277 := s_277 w (d := 997) (k := k) (by decide) (by omega) ν
  have e218 := fun x => s_218 w (d := 997) (by decide) x (σ := ν) (by rw [en]; omega)
  have rest : ypq n k p q → zcall w 998 282 [zA 13 32 209, zI k, zI p, zI q] ν = (zcall w 997 277 [zA 13 32 209, zI k] ν).bind fun r3 => if r3.1 = 0 then (zcall w 997 214 [zA 13 32 209, zI (-62)] r3.2).bind fun r4 => some (r4.1, r4.2) else (zcall w 997 280 [zA 13 32 209, zI k, zI p, zI q] r3.2).bind fun r5 => if r5.1 = 0 then if (r5.2 209 1) = 24 then (zcall w 997 214 [zA 13 32 209, zI (-66)] r5.2).bind fun r6 => some (r6.1, r6.2) else (zcall w 997 278 [zA 13 32 209, zI k, zI p, zI q] r5.2).bind fun r7 => (zcall w 997 279 [zA 13 32 209, zI k, zI p, zI q] r7.2).bind fun r8 => (zcall w 997 281 [zA 13 32 209, zI k, zI p, zI q, zI r7.1, zI r8.1, zA 20 6 221, zI 0] r8.2).bind fun r9 => some (r9.1, r9.2) else (zcall w 997 214 [zA 13 32 209, zI (-65)] r5.2).bind fun r10 => some (r10.1, r10.2) := by
    intro hp
    refine (eX12_made w 997 k p q ν).trans ?_
    by_cases c5 : 5 < k
    · rw [if_pos c5, e218, Option.bind_some]
      dsimp only
      rw [zt_if, en, if_pos (by unfold ypq at hp; omega)]
      by_cases c11 : 11 < k
      · rw [if_pos c11]
      · rw [if_neg c11, e218, Option.bind_some]
        dsimp only
        rw [zt_if, en, if_pos (by unfold ypq at hp; omega)]
    · rw [if_neg c5]
  refine ⟨fun u => ?_, fun hp cN cD => ?_, fun hp cN cD c24 => ?_, fun hp cN cD c24 => ?_⟩
  · by_cases hp : ypq n k p q
    · have cN : ¬ zNV k (ν 221) := fun v => u ⟨hp, v⟩
      rw [rest hp, e277, Option.bind_some]
      dsimp only
      rw [ynv_n cN, if_pos rfl, bad (-62) (by decide)]
      rfl
    · refine (eX12_made w 997 k p q ν).trans ?_
      have c5 : 5 < k := by unfold ypq at hp; omega
      rw [if_pos c5, e218, Option.bind_some]
      dsimp only
      rw [zt_if, en]
      by_cases cp : 0 ≤ p ∧ p < n
      · rw [if_pos cp]
        have c11 : ¬ 11 < k := by unfold ypq at hp; omega
        rw [if_neg c11, e218, Option.bind_some]
        dsimp only
        rw [zt_if, en, if_neg (by unfold ypq at hp; omega), bad (-62) (by decide)]
        rfl
      · rw [if_neg cp, bad (-62) (by decide)]
        rfl
  · rw [rest hp, e277, Option.bind_some]
    dsimp only
    rw [ynv_p cN, if_neg (by decide), s_280 w (by decide) hT hp, Option.bind_some]
    dsimp only
    rw [zt_if, if_pos cD, bad (-65) (by decide)]
    rfl
  · rw [rest hp, e277, Option.bind_some]
    dsimp only
    rw [ynv_p cN, if_neg (by decide), s_280 w (by decide) hT hp, Option.bind_some]
    dsimp only
    rw [zt_if, if_neg cD, if_pos (show ν 209 1 = 24 from en.trans c24), bad (-66) (by decide)]
    rfl
  · obtain ⟨a1, a2⟩ := s_278 w (d := 997) (by decide) hT hp
    rw [rest hp, e277, Option.bind_some]
    dsimp only
    rw [ynv_p cN, if_neg (by decide), s_280 w (by decide) hT hp, Option.bind_some]
    dsimp only
    rw [zt_if, if_neg cD, if_neg (show ¬ ν 209 1 = 24 by rw [en]; omega), a1, Option.bind_some]
    dsimp only
    rw [a2, Option.bind_some]
/-- one after the other -/
theorem yMk (w : zW) {k p q : Int} {σ μ : zMem} (hI : zInv σ) (hμ : ∀ a t, a ≠ 206 → μ a t = σ a t) (hk : (3 ≤ k ∧ k ≤ 5 ∧ p = -1 ∧ q = -1) ∨ (8 ≤ k ∧ k ≤ 11 ∧ 0 ≤ q ∧ q < σ 209 1) ∨ (12 ≤ k ∧ k ≤ 17 ∧ q = -1)) :
    ∃ r σ1, zcall w 998 159 [zA 12 16 1, zI k, zI p, zI q] μ = some (r, σ1) ∧ ∀ ν : zMem, (∀ a t, a ≠ 221 → ν a t = σ1 a t) → (∀ t, 0 ≤ t → t < zno k → ν 221 t = μ 206 t) → ∃ σ2, zcall w 998 282 [zA 13 32 209, zI k, zI p, zI q] ν = some (r, σ2) ∧ zInv σ2 := by
  have aμ : zalk σ μ := zalk_n fun a t u _ => hμ a t u
  have Iμ : zInv μ := zalk_I hI aμ
  have T0 : μ 210 = σ 210 := funext fun t => hμ _ _ (by decide)
  have N0 : μ 209 1 = σ 209 1 := hμ _ _ (by decide)
  have hT := hI.2.1.1
  have ref : ∀ m : Int, (-66 ≤ m ∧ m ≤ -62) → ∀ ν : zMem, (∀ a t, a ≠ 221 → ν a t = zrA μ m a t) → zInv (zrB ν m) ∧ ν 210 = σ 210 ∧ ν 209 1 = σ 209 1 := by
    intro m hm ν hν
    refine ⟨zref hI aμ (zalk_n fun a t _ u => hν a t u), ?_, ?_⟩
    · exact (funext fun t => (hν _ _ (by decide)).trans (zup_f (by omega))).trans T0
    · exact ((hν _ _ (by decide)).trans (zup_f (by omega))).trans N0
  have nc : ∀ ν : zMem, (∀ t, 0 ≤ t → t < zno k → ν 221 t = μ 206 t) → (zNV k (ν 221) ↔ zNV k (μ 206)) := by
    intro ν h
    have := ynv_c (k := k) (N := μ 206) (N' := ν 221) h
    by_cases c : zNV k (μ 206)
    · by_cases c2 : zNV k (ν 221)
      · exact ⟨fun _ => c, fun _ => c2⟩
      · rw [ynv_p c, ynv_n c2] at this; omega
    · by_cases c2 : zNV k (ν 221)
      · rw [ynv_n c, ynv_p c2] at this; omega
      · exact ⟨fun u => absurd u c2, fun u => absurd u c⟩
  rcases s_159 w (k := k) (p := p) (q := q) Iμ N0 (by omega) with ⟨u, e⟩ | ⟨hp, cN, cD, e⟩ | ⟨hp, cN, cD, c24, e⟩ | ⟨hp, cN, cD, c24, σ', e, c2, c3, c4, c5, c6, c7, c8, f1, f2, f3⟩
  · refine ⟨_, _, e, fun ν h1 h2 => ?_⟩
    obtain ⟨i, t, m⟩ := ref (-62) (by decide) ν h1
    exact ⟨_, (s_282 w (k := k) (p := p) (q := q) (by rw [t]; exact hT) m (by omega)).1 (fun v => u ⟨v.1, (nc ν h2).1 v.2⟩), i⟩
  · refine ⟨_, _, e, fun ν h1 h2 => ?_⟩
    obtain ⟨i, t, m⟩ := ref (-65) (by decide) ν h1
    exact ⟨_, (s_282 w (k := k) (p := p) (q := q) (by rw [t]; exact hT) m (by omega)).2.1 hp ((nc ν h2).2 cN) (by rw [t, ← T0]; exact cD), i⟩
  · refine ⟨_, _, e, fun ν h1 h2 => ?_⟩
    obtain ⟨i, t, m⟩ := ref (-66) (by decide) ν h1
    exact ⟨_, (s_282 w (k := k) (p := p) (q := q) (by rw [t]; exact hT) m (by omega)).2.2.1 hp ((nc ν h2).2 cN) (by rw [t, ← T0]; exact cD) c24, i⟩
  · have h0 := hT.1
    generalize hn : σ 209 1 = n at *
    refine ⟨_, _, e, fun ν h1 h2 => ?_⟩
    have F : ∀ a t, ¬ (2 ≤ a ∧ a ≤ 9) → a ≠ 87 → a ≠ 206 → a ≠ 221 → ν a t = σ a t := fun a t u v x y => by
      rw [h1 a t y, zup_f (by omega), yfm_f (by omega), f1 _ _ (by omega), hμ a t x]
    have t : ν 210 = σ 210 := funext fun t => F _ _ (by decide) (by decide) (by decide) (by decide)
    have m : ν 209 1 = n := (F _ _ (by decide) (by decide) (by decide) (by decide)).trans hn
    have s9 := (s_282 w (n := n) (k := k) (p := p) (q := q) (ν := ν) (by rw [t]; exact hT) m (by omega)).2.2.2 hp ((nc ν h2).2 cN) (by rw [t, ← T0]; exact cD) c24
    obtain ⟨σ2, q1, q2, q3, q4, q5, q6, q7, q8, q9, q10⟩ := s_281 w (d := 997) (by decide) (k := k) (p := p) (q := q) (de := ydp (ν 210) k p q) (bl := ybd (ν 210) k p q) (σ := ν) ⟨h0, c24⟩ m
    rw [t] at q1 q5 q6 s9
    have q1' := q1
    rw [q1, Option.bind_some] at s9
    rw [T0] at c5 c6 c7 cD
    have g : ∀ a t, a ≠ 210 → a ≠ 209 → a ≠ 221 → σ2 a t = zup (yfm 87 (fun _ => 0) n 24 σ') 2 7 (n + 1) a t := fun a t u v x => (q10 a t u (Or.inl v)).trans (h1 a t x)
    have g2 : ∀ a t, a ≠ 210 → a ≠ 209 → a ≠ 221 → a ≠ 87 → (a ≠ 2 ∨ t ≠ 7) → σ2 a t = σ' a t := fun a t u v x y z => by rw [g a t u v x, zup_f (by omega), yfm_f (by omega)]
    refine ⟨σ2, s9, yadd (N := μ 206) hI hn c24 hp cN (by omega) (by omega) q2 q3 q4 q5 q6 (fun t x y => (q7 t x y).trans (h2 t x y)) (fun t x => (q9 t x).trans (F _ _ (by decide) (by decide) (by decide) (by decide))) q8 (fun t x => (q10 _ _ (by decide) (Or.inr x)).trans (F _ _ (by decide) (by decide) (by decide) (by decide)))
      (by rw [g _ _ (by decide) (by decide) (by decide), zup_t ⟨rfl, rfl, by decide⟩]) ((g2 _ _ (by decide) (by decide) (by decide) (by decide) (Or.inl (by decide))).trans c2) ((g2 _ _ (by decide) (by decide) (by decide) (by decide) (Or.inl (by decide))).trans c3) ((g2 _ _ (by decide) (by decide) (by decide) (by decide) (Or.inl (by decide))).trans c4) ((g2 _ _ (by decide) (by decide) (by decide) (by decide) (Or.inl (by decide))).trans c5) ((g2 _ _ (by decide) (by decide) (by decide) (by decide) (Or.inl (by decide))).trans c6) ((g2 _ _ (by decide) (by decide) (by decide) (by decide) (Or.inl (by decide))).trans c7)
      (fun t x y => (g2 _ _ (by decide) (by decide) (by decide) (by decide) (Or.inl (by decide))).trans (c8 t x (by have := zno_b6 k; omega))) (fun a t x y z => ((g2 _ _ (by omega) (by omega) (by omega) (by omega) (by omega)).trans (f2 a t x y z)).trans (hμ _ _ (by omega))) (fun t x => ((g2 _ _ (by decide) (by decide) (by decide) (by decide) (Or.inl (by decide))).trans (f3 t x)).trans (hμ _ _ (by decide)))
      (fun t x => ?_) ?_ (fun a t u v x y z o => ?_)⟩
    · rw [g _ _ (by decide) (by decide) (by decide), zup_f (by omega), yfm_f (by omega), f1 _ _ (by decide), hμ _ _ (by decide)]
    · rw [g _ _ (by decide) (by decide) (by decide), zup_f (by omega), yfm_t ⟨rfl, by omega, c24⟩]
    · rw [g2 _ _ u v o y (by omega), f1 _ _ (by omega), hμ _ _ z]
end
