/-! What is kept: the class' tables and blocks -/
theorem s_123 (w : zW) (d : Nat) {o p : Int} (h : (o = 10 ∧ p = 2) ∨ (o = 2 ∧ p = 10)) (σ : zMem) : ∃ σ', zcall w d 123 [zA 10 8 o, zA 10 8 p] σ = some (0, σ')
    ∧ (∀ a k, ¬ (o ≤ a ∧ a ≤ o + 7) → σ' a k = σ a k) ∧ σ' o 7 = σ p 7 ∧ (∀ j k : Int, 1 ≤ j → j ≤ 6 → 0 ≤ k → k < 88 → σ' (o + j) k = σ (p + j) k) ∧ ∀ k : Int, 0 ≤ k → k < 528 → σ' (o + 7) k = σ (p + 7) k := by
  have r : ∀ i : Int, 0 ≤ i → i < 7 → zR w o i = o + 1 + i ∧ zR w p i = p + 1 + i := by
    intro i h0 h7
    have : i = 0 ∨ i = 1 ∨ i = 2 ∨ i = 3 ∨ i = 4 ∨ i = 5 ∨ i = 6 := by omega
    rcases h with ⟨rfl, rfl⟩ | ⟨rfl, rfl⟩ <;> rcases this with rfl | rfl | rfl | rfl | rfl | rfl | rfl <;> exact ⟨rfl, rfl⟩
  have e := eX9_takeFrom w d o p σ
  rw [(r 0 (by decide) (by decide)).1, (r 0 (by decide) (by decide)).2, (r 1 (by decide) (by decide)).1, (r 1 (by decide) (by decide)).2, (r 2 (by decide) (by decide)).1, (r 2 (by decide) (by decide)).2, (r 3 (by decide) (by decide)).1, (r 3 (by decide) (by decide)).2,
    (r 4 (by decide) (by decide)).1, (r 4 (by decide) (by decide)).2, (r 5 (by decide) (by decide)).1, (r 5 (by decide) (by decide)).2, (r 6 (by decide) (by decide)).1, (r 6 (by decide) (by decide)).2] at e
  obtain ⟨m1, q1⟩ : ∃ m, m = zfc σ (p + 1 + 0) 0 (o + 1 + 0) 0 88 := ⟨_, rfl⟩
  rw [← q1] at e
  obtain ⟨m2, q2⟩ : ∃ m, m = zfc m1 (p + 1 + 1) 0 (o + 1 + 1) 0 88 := ⟨_, rfl⟩
  rw [← q2] at e
  obtain ⟨m3, q3⟩ : ∃ m, m = zfc m2 (p + 1 + 2) 0 (o + 1 + 2) 0 88 := ⟨_, rfl⟩
  rw [← q3] at e
  obtain ⟨m4, q4⟩ : ∃ m, m = zfc m3 (p + 1 + 3) 0 (o + 1 + 3) 0 88 := ⟨_, rfl⟩
  rw [← q4] at e
  obtain ⟨m5, q5⟩ : ∃ m, m = zfc m4 (p + 1 + 4) 0 (o + 1 + 4) 0 88 := ⟨_, rfl⟩
  rw [← q5] at e
  obtain ⟨m6, q6⟩ : ∃ m, m = zfc m5 (p + 1 + 5) 0 (o + 1 + 5) 0 88 := ⟨_, rfl⟩
  rw [← q6] at e
  obtain ⟨m7, q7⟩ : ∃ m, m = zfc m6 (p + 1 + 6) 0 (o + 1 + 6) 0 528 := ⟨_, rfl⟩
  rw [← q7] at e
  have f1 : ∀ a k, a ≠ o + 1 → m1 a k = σ a k := fun a k x => by rw [q1, zfc_f (by omega)]
  have f2 : ∀ a k, a ≠ o + 2 → m2 a k = m1 a k := fun a k x => by rw [q2, zfc_f (by omega)]
  have f3 : ∀ a k, a ≠ o + 3 → m3 a k = m2 a k := fun a k x => by rw [q3, zfc_f (by omega)]
  have f4 : ∀ a k, a ≠ o + 4 → m4 a k = m3 a k := fun a k x => by rw [q4, zfc_f (by omega)]
  have f5 : ∀ a k, a ≠ o + 5 → m5 a k = m4 a k := fun a k x => by rw [q5, zfc_f (by omega)]
  have f6 : ∀ a k, a ≠ o + 6 → m6 a k = m5 a k := fun a k x => by rw [q6, zfc_f (by omega)]
  have f7 : ∀ a k, a ≠ o + 7 → m7 a k = m6 a k := fun a k x => by rw [q7, zfc_f (by omega)]
  have F : ∀ a k, ¬ (o + 1 ≤ a ∧ a ≤ o + 7) → m7 a k = σ a k := fun a k x => by
    rw [f7 a k (by omega), f6 a k (by omega), f5 a k (by omega), f4 a k (by omega), f3 a k (by omega), f2 a k (by omega), f1 a k (by omega)]
  refine ⟨_, e, fun a k x => ?_, ?_, fun j k j1 j6 k0 k1 => ?_, fun k k0 k1 => ?_⟩
  · rw [zup_f (by omega), F a k (by omega)]
  · rw [zup_t (by omega), F p 7 (by omega)]
  · rw [zup_f (by omega)]
    have : j = 1 ∨ j = 2 ∨ j = 3 ∨ j = 4 ∨ j = 5 ∨ j = 6 := by omega
    rcases this with rfl | rfl | rfl | rfl | rfl | rfl
    · rw [f7 _ _ (by omega), f6 _ _ (by omega), f5 _ _ (by omega), f4 _ _ (by omega), f3 _ _ (by omega), f2 _ _ (by omega), q1, zfc_t (by omega)]
      congr 1 <;> omega
    · rw [f7 _ _ (by omega), f6 _ _ (by omega), f5 _ _ (by omega), f4 _ _ (by omega), f3 _ _ (by omega), q2, zfc_t (by omega), f1 _ _ (by omega)]
      congr 1 <;> omega
    · rw [f7 _ _ (by omega), f6 _ _ (by omega), f5 _ _ (by omega), f4 _ _ (by omega), q3, zfc_t (by omega), f2 _ _ (by omega), f1 _ _ (by omega)]
      congr 1 <;> omega
    · rw [f7 _ _ (by omega), f6 _ _ (by omega), f5 _ _ (by omega), q4, zfc_t (by omega), f3 _ _ (by omega), f2 _ _ (by omega), f1 _ _ (by omega)]
      congr 1 <;> omega
    · rw [f7 _ _ (by omega), f6 _ _ (by omega), q5, zfc_t (by omega), f4 _ _ (by omega), f3 _ _ (by omega), f2 _ _ (by omega), f1 _ _ (by omega)]
      congr 1 <;> omega
    · rw [f7 _ _ (by omega), q6, zfc_t (by omega), f5 _ _ (by omega), f4 _ _ (by omega), f3 _ _ (by omega), f2 _ _ (by omega), f1 _ _ (by omega)]
      congr 1 <;> omega
  · rw [zup_f (by omega), q7, zfc_t (by omega), f6 _ _ (by omega), f5 _ _ (by omega), f4 _ _ (by omega), f3 _ _ (by omega), f2 _ _ (by omega), f1 _ _ (by omega)]
    congr 1 <;> omega
theorem zno_b (k : Int) : 0 ≤ zno k ∧ zno k ≤ 6 := by
  unfold zno
  (repeat' split) <;> decide
theorem zTb_take {o p n : Int} {σ σ' : zMem} {T : Int → Int} (hn : n ≤ 24) (h7 : σ' o 7 = σ p 7) (h1 : ∀ j k : Int, 1 ≤ j → j ≤ 6 → 0 ≤ k → k < 88 → σ' (o + j) k = σ (p + j) k) (h2 : ∀ k : Int, 0 ≤ k → k < 528 → σ' (o + 7) k = σ (p + 7) k) (t : zTb p σ T n) : zTb o σ' T n := by
  refine ⟨h7.trans t.1, fun s a b => ?_⟩
  obtain ⟨u1, u2, u3, u4, u5, u6, u7⟩ := t.2 s a b
  have hz := zno_b (T (11 * s))
  exact ⟨(h1 1 s (by decide) (by decide) a (by omega)).trans u1, (h1 2 s (by decide) (by decide) a (by omega)).trans u2, (h1 3 s (by decide) (by decide) a (by omega)).trans u3, (h1 4 s (by decide) (by decide) a (by omega)).trans u4, (h1 5 s (by decide) (by decide) a (by omega)).trans u5,
    (h1 6 s (by decide) (by decide) a (by omega)).trans u6, fun k c e => (h2 _ (by omega) (by omega)).trans (u7 k c e)⟩
