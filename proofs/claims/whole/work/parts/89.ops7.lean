/-! Calls 40 and 46: has, status -/
/-- cells from lo up to hi become what f says -/
def yfm (o : Int) (f : Int → Int) (lo hi : Int) (σ : zMem) : zMem := fun a k => if a = o ∧ lo ≤ k ∧ k < hi then f k else σ a k
theorem yfm_t {o : Int} {f : Int → Int} {lo hi : Int} {σ : zMem} {a k : Int} (h : a = o ∧ lo ≤ k ∧ k < hi) : yfm o f lo hi σ a k = f k := if_pos h
theorem yfm_f {o : Int} {f : Int → Int} {lo hi : Int} {σ : zMem} {a k : Int} (h : ¬ (a = o ∧ lo ≤ k ∧ k < hi)) : yfm o f lo hi σ a k = σ a k := if_neg h
theorem yfm_up {o : Int} {f : Int → Int} {lo hi v : Int} {σ : zMem} (ho : o ≠ 0) (h : lo < hi) (hv : v = f lo) : yfm o f (lo + 1) hi (zup σ o lo v) = yfm o f lo hi σ := by
  funext a k
  by_cases h1 : a = o ∧ lo + 1 ≤ k ∧ k < hi
  · rw [yfm_t h1, yfm_t (by omega)]
  · rw [yfm_f h1]
    by_cases h2 : a = o ∧ k = lo
    · rw [zup_t ⟨h2.1, h2.2, ho⟩, yfm_t (by omega), h2.2, hv]
    · rw [zup_f (by omega), yfm_f (by omega)]
theorem yfm_e {o : Int} {f : Int → Int} {hi : Int} {σ : zMem} : yfm o f hi hi σ = σ := by
  funext a k
  exact yfm_f (by omega)
theorem s_246 (w : zW) {d : Nat} (hd : 1 ≤ d) (x : Int) (σ : zMem) : zcall w d 246 [zI x] σ = some (zt (0 ≤ x ∧ x < 4096), σ) := by
  obtain ⟨d, rfl⟩ : ∃ e, d = e + 1 := ⟨d - 1, by omega⟩
  rw [eX12_isPlace]
  simp only [s_213, Option.bind_some, zt_01]
  rw [zt, zt]
  (repeat' split) <;> first | rfl | omega
theorem yzbo {α : Type} {x : Int} {A B : α} (h : 0 ≤ x ∧ x ≤ 1) : (if x = 0 then A else B) = if zbo x = true then B else A := by
  unfold zbo
  by_cases c : x = 0
  · rw [if_pos c, if_neg (by simp [c])]
  · rw [if_neg c, if_pos (by simp [c])]
theorem l_326 (w : zW) (d : Nat) {b : Int → Int} (hb : ∀ p : Int, 0 ≤ p → p < 4096 → 0 ≤ b p ∧ b p ≤ 1) : ∀ (m k : Nat) (σ : zMem), k + m = 4096 → σ 229 = b →
    zden w d 326 4 [zA 13 32 209, zI (yct (fun p => zbo (b p)) k : Nat), zI (k : Int)] [] σ = some (((yct (fun p => zbo (b p)) 4096 : Nat) : Int), yfm 216 b k 4096 σ) := by
  intro m
  induction m with
  | zero =>
    intro k σ h hs
    have : k = 4096 := by omega
    subst this
    have e := yfm_e (o := 216) (f := b) (hi := 4096) (σ := σ)
    rw [hX12_blockMany_4, if_neg (by omega)]
    exact congrArg _ (congrArg _ e.symm)
  | succ m ih =>
    intro k σ h hs
    have hk := hb k (by omega) (by omega)
    have h1 := yct_le (fun p => zbo (b p)) k
    have e1 : zar 0 (k : Int) 1 = ((k + 1 : Nat) : Int) := by rw [za_0, zw32_i (by omega)]; omega
    have e2 : zup σ 216 k (b k % 2) 229 k = b k := by rw [zup_f (by omega), hs]
    have ih2 := ih (k + 1) (zup σ 216 k (b k % 2)) (by omega) ((funext fun j => zup_f (by omega)).trans hs)
    have e3 : yfm 216 b ((k + 1 : Nat) : Int) 4096 (zup σ 216 k (b k % 2)) = yfm 216 b k 4096 σ := by
      rw [show ((k + 1 : Nat) : Int) = (k : Int) + 1 by omega]
      exact yfm_up (by decide) (by omega) (by omega)
    rw [e3, yct_s] at ih2
    rw [hX12_blockMany_4, if_pos (by omega), if_pos (by omega), if_pos (by omega), if_pos (by omega), hs, e2, yzbo hk, e1, za_0, za_0]
    by_cases c : zbo (b k) = true
    · rw [if_pos c] at ih2
      rw [if_pos c, zw32_i (z := (yct (fun p => zbo (b p)) k : Int) + 1) (by omega)]
      exact ih2
    · rw [if_neg c] at ih2
      rw [if_neg c, zw32_i (z := (yct (fun p => zbo (b p)) k : Int) + 0) (by omega)]
      exact ih2
theorem s_326 (w : zW) (d : Nat) {σ : zMem} (hb : ∀ p : Int, 0 ≤ p → p < 4096 → 0 ≤ σ 229 p ∧ σ 229 p ≤ 1) : zcall w d 326 [zA 13 32 209] σ = some (((yct (fun p => zbo (σ 229 p)) 4096 : Nat) : Int), yfm 216 (σ 229) 0 4096 σ) := by
  rw [eX12_blockMany]
  exact l_326 w d hb 4096 0 σ (by omega) rfl
theorem op_40 (w : zW) (x1 : Int) : zOp zInv w 187 328 [zI x1] := by
  intro σ hI
  by_cases h1 : 0 ≤ x1 ∧ x1 < 4096
  · have hB := hI.2.2.2.2.1.1
    have h8 : zbit σ 20 x1 = zbo (σ 229 x1) := hB.2.2.2.2.2.2.2.1 x1 h1.1 h1.2
    have h9 := hB.2.2.2.2.2.2.2.2.1 x1 h1.1 h1.2
    have r1 : zR w 18 0 = 19 := rfl
    have r2 : zR w 19 0 = 20 := rfl
    refine yask (r := zt (zbo (σ 229 x1) = true)) hI ((eX11_has w 998 x1 σ).trans ?_) ((eX12_has w 998 x1 σ).trans ?_)
    · simp only [s_202, eX0_places, Option.bind_some, zt_if, r1, s_49 w (show 1 ≤ 998 by decide), r2, h8]
      rw [if_pos h1]
      by_cases c : zbo (σ 229 x1) = true
      · rw [if_pos ⟨h1, c⟩, zt_p c]
      · rw [if_neg (fun q => c q.2), zt_n c]
    · simp only [s_246 w (show 1 ≤ 998 by decide), Option.bind_some, zt_if]
      rw [if_pos h1, if_pos h1, yzbo h9]
      by_cases c : zbo (σ 229 x1) = true
      · rw [if_pos c, zt_p c]
      · rw [if_neg c, zt_n c]
  · refine yref hI (n := -62) ((eX11_has w 998 x1 σ).trans ?_) ((eX12_has w 998 x1 _).trans ?_)
    · simp only [s_202, Option.bind_some, zt_if, s_194 w 998 (n := -62) (by decide)]
      rw [if_neg h1]
    · simp only [s_246 w (show 1 ≤ 998 by decide), Option.bind_some, zt_if, s_214 w 998 (n := -62) (by decide)]
      rw [if_neg h1]
theorem l_83 (w : zW) (d : Nat) (σ : zMem) : ∀ (m k : Nat), k + m = 8 → zden w d 83 4 [zA 8 3 74, zI (yct (fun s => decide (σ 75 s ≠ -1)) k : Nat), zI (k : Int)] [] σ = some (((yct (fun s => decide (σ 75 s ≠ -1)) 8 : Nat) : Int), σ) := by
  intro m
  induction m with
  | zero =>
    intro k h
    have : k = 8 := by omega
    subst this
    rw [hX7_full_4, if_neg (by omega)]
  | succ m ih =>
    intro k h
    have h1 := yct_le (fun s => decide (σ 75 s ≠ -1)) k
    have e1 : zar 0 (k : Int) 1 = ((k + 1 : Nat) : Int) := by rw [za_0, zw32_i (by omega)]; omega
    have ih2 := ih (k + 1) (by omega)
    rw [yct_s] at ih2
    rw [hX7_full_4, if_pos (by omega), if_pos (by omega), e1, za_0, za_0]
    by_cases c : σ 75 (k : Int) = -1
    · rw [if_neg (by simp [c])] at ih2
      rw [if_pos c, zw32_i (z := (yct (fun s => decide (σ 75 s ≠ -1)) k : Int) + 0) (by omega)]
      exact ih2
    · rw [if_pos (by simp [c])] at ih2
      rw [if_neg c, zw32_i (z := (yct (fun s => decide (σ 75 s ≠ -1)) k : Int) + 1) (by omega)]
      exact ih2
theorem l_336 (w : zW) (d : Nat) (σ : zMem) : ∀ (m k : Nat), k + m = 8 → zden w d 336 4 [zA 13 32 209, zI (yct (fun s => decide (0 ≤ σ 226 s)) k : Nat), zI (k : Int)] [] σ = some (((yct (fun s => decide (0 ≤ σ 226 s)) 8 : Nat) : Int), σ) := by
  intro m
  induction m with
  | zero =>
    intro k h
    have : k = 8 := by omega
    subst this
    rw [hX12_held_4, if_neg (by omega)]
  | succ m ih =>
    intro k h
    have h1 := yct_le (fun s => decide (0 ≤ σ 226 s)) k
    have e1 : zar 0 (k : Int) 1 = ((k + 1 : Nat) : Int) := by rw [za_0, zw32_i (by omega)]; omega
    have ih2 := ih (k + 1) (by omega)
    rw [yct_s] at ih2
    rw [hX12_held_4, if_pos (by omega), if_pos (by omega), e1, za_0, za_0]
    by_cases c : σ 226 (k : Int) < 0
    · rw [if_neg (by simp; omega)] at ih2
      rw [if_pos c, zw32_i (z := (yct (fun s => decide (0 ≤ σ 226 s)) k : Int) + 0) (by omega)]
      exact ih2
    · rw [if_pos (by simp; omega)] at ih2
      rw [if_neg c, zw32_i (z := (yct (fun s => decide (0 ≤ σ 226 s)) k : Int) + 1) (by omega)]
      exact ih2
theorem op_46 (w : zW) (x1 : Int) : zOp zInv w 193 337 [zI x1] := by
  intro σ hI
  have hB := hI.2.2.2.2.1.1
  have r1 : zR w 18 0 = 19 := rfl
  have r2 : zR w 19 0 = 20 := rfl
  have e16 : zar 0 11 5 = 16 := by rw [za_0]; decide +kernel
  refine Exists.elim (p := fun r => zcall w 999 193 [zA 12 16 1, zI x1] σ = some (r, σ) ∧ ∃ σ2, zcall w 999 337 [zA 13 32 209, zI x1] σ = some (r, σ2) ∧ zalk σ σ2) ?_ fun r h => ?_
  · by_cases c0 : x1 = 0
    · refine ⟨σ 209 1, (eX11_status w 998 x1 σ).trans ?_, σ, (eX12_status w 998 x1 σ).trans ?_, zalk_r σ⟩
      · rw [if_pos c0, eX9_size, Option.bind_some, zI_h2 hI]
      · rw [if_pos c0]
    by_cases c1 : x1 = 1
    · refine ⟨σ 209 24, (eX11_status w 998 x1 σ).trans ?_, σ, (eX12_status w 998 x1 σ).trans ?_, zalk_r σ⟩
      · rw [if_neg c0, if_pos c1, eX0_left, Option.bind_some, hB.1]
      · rw [if_neg c0, if_pos c1]
    by_cases c2 : x1 = 2
    · refine ⟨((yct (fun p => zbo (σ 229 p)) 4096 : Nat) : Int), (eX11_status w 998 x1 σ).trans ?_, yfm 216 (σ 229) 0 4096 σ, (eX12_status w 998 x1 σ).trans ?_, fun a k q => yfm_f (by unfold zsX zsT zsC zsK zsB zsS zsP zsR at q; omega)⟩
      · simp only [eX0_places, Option.bind_some, r1, s_57 w (show 1 ≤ 998 by decide), r2]
        rw [if_neg c0, if_neg c1, if_pos c2, yct_c (n := 4096) (f := zbit σ 20) (g := fun p => zbo (σ 229 p)) (fun p a b => hB.2.2.2.2.2.2.2.1 p a b)]
      · rw [if_neg c0, if_neg c1, if_pos c2, s_326 w 998 hB.2.2.2.2.2.2.2.2.1, Option.bind_some]
    by_cases c3 : x1 = 3
    · refine ⟨σ 209 25, (eX11_status w 998 x1 σ).trans ?_, σ, (eX12_status w 998 x1 σ).trans ?_, zalk_r σ⟩
      · rw [if_neg c0, if_neg c1, if_neg c2, if_pos c3, eX0_inAll, Option.bind_some, hB.2.1]
      · rw [if_neg c0, if_neg c1, if_neg c2, if_pos c3]
    by_cases c4 : x1 = 4
    · refine ⟨σ 209 11, (eX11_status w 998 x1 σ).trans ?_, σ, (eX12_status w 998 x1 σ).trans ?_, zalk_r σ⟩
      · rw [if_neg c0, if_neg c1, if_neg c2, if_neg c3, if_pos c4, eX6_size, Option.bind_some, hI.2.2.2.2.2.2.2.1]
      · rw [if_neg c0, if_neg c1, if_neg c2, if_neg c3, if_pos c4]
    by_cases c5 : x1 = 5
    · refine ⟨σ 209 26, (eX11_status w 998 x1 σ).trans ?_, σ, (eX12_status w 998 x1 σ).trans ?_, zalk_r σ⟩
      · rw [if_neg c0, if_neg c1, if_neg c2, if_neg c3, if_neg c4, if_pos c5, eX0_drawnFrom, Option.bind_some, hB.2.2.1]
      · rw [if_neg c0, if_neg c1, if_neg c2, if_neg c3, if_neg c4, if_pos c5]
    by_cases c6 : x1 = 6
    · refine ⟨((yct (fun s => decide (0 ≤ σ 226 s)) 8 : Nat) : Int), (eX11_status w 998 x1 σ).trans ?_, σ, (eX12_status w 998 x1 σ).trans ?_, zalk_r σ⟩
      · have h := l_83 w 998 σ 8 0 (by omega)
        rw [if_neg c0, if_neg c1, if_neg c2, if_neg c3, if_neg c4, if_neg c5, if_pos c6, eX7_full]
        refine (congrArg (fun t => Option.bind t _) h).trans ?_
        rw [Option.bind_some, yct_c (n := 8) (f := fun s => decide (σ 75 s ≠ -1)) (g := fun s => decide (0 ≤ σ 226 s)) (fun s a b => by
          have hs := hI.2.2.2.2.2.1 s a b
          rw [hs.1]
          exact decide_eq_decide.mpr (by omega))]
      · have h := l_336 w 998 σ 8 0 (by omega)
        rw [if_neg c0, if_neg c1, if_neg c2, if_neg c3, if_neg c4, if_neg c5, if_pos c6, eX12_held]
        refine (congrArg (fun t => Option.bind t _) h).trans ?_
        rw [Option.bind_some]
    by_cases c7 : 12 ≤ x1 ∧ x1 ≤ 16
    · have e : zar 1 x1 12 = x1 - 12 := by rw [za_1, zw32_i (by omega)]
      refine ⟨σ 211 (x1 - 12), (eX11_status w 998 x1 σ).trans ?_, σ, (eX12_status w 998 x1 σ).trans ?_, zalk_r σ⟩
      · simp only [s_200, Option.bind_some, zt_if, e16, e]
        rw [if_neg c0, if_neg c1, if_neg c2, if_neg c3, if_neg c4, if_neg c5, if_neg c6, if_pos c7, if_pos (by omega), hI.2.2.2.2.2.2.1 _ (by omega) (by omega)]
      · simp only [s_213, Option.bind_some, zt_if, e]
        rw [if_neg c0, if_neg c1, if_neg c2, if_neg c3, if_neg c4, if_neg c5, if_neg c6, if_pos c7, if_pos (by omega)]
    · refine ⟨-1, (eX11_status w 998 x1 σ).trans ?_, σ, (eX12_status w 998 x1 σ).trans ?_, zalk_r σ⟩
      · simp only [s_200, Option.bind_some, zt_if, e16]
        rw [if_neg c0, if_neg c1, if_neg c2, if_neg c3, if_neg c4, if_neg c5, if_neg c6, if_neg c7]
      · simp only [s_213, Option.bind_some, zt_if]
        rw [if_neg c0, if_neg c1, if_neg c2, if_neg c3, if_neg c4, if_neg c5, if_neg c6, if_neg c7]
  · obtain ⟨e1, σ2, e2, hz⟩ := h
    exact ⟨r, σ, σ2, e1, e2, zalk_I hI hz⟩
