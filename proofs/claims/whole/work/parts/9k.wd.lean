section
/-! Numbers, rows and worths: what they may be -/
theorem yV3 {N : Int → Int} (h : zNV 3 N) : (-40 ≤ N 0 ∧ N 0 ≤ 55) ∧ (-40 ≤ N 1 ∧ N 1 ≤ 55) ∧ (-40 ≤ N 2 ∧ N 2 ≤ 55) ∧ 0 ≤ N 3 ∧ N 3 ≤ 40 :=
  ⟨h 0 (by decide) (by decide), h 1 (by decide) (by decide), h 2 (by decide) (by decide), h 3 (by decide) (by decide)⟩
theorem yV4 {N : Int → Int} (h : zNV 4 N) : (-40 ≤ N 0 ∧ N 0 ≤ 55) ∧ (-40 ≤ N 1 ∧ N 1 ≤ 55) ∧ (-40 ≤ N 2 ∧ N 2 ≤ 55) ∧ (N 0 ≤ N 3 ∧ N 3 ≤ 55) ∧ (N 1 ≤ N 4 ∧ N 4 ≤ 55) ∧ N 2 ≤ N 5 ∧ N 5 ≤ 55 :=
  ⟨h 0 (by decide) (by decide), h 1 (by decide) (by decide), h 2 (by decide) (by decide), h 3 (by decide) (by decide), h 4 (by decide) (by decide), h 5 (by decide) (by decide)⟩
theorem yV5 {N : Int → Int} (h : zNV 5 N) : (-9 ≤ N 0 ∧ N 0 ≤ 9) ∧ (-9 ≤ N 1 ∧ N 1 ≤ 9) ∧ (-9 ≤ N 2 ∧ N 2 ≤ 9) ∧ -999 ≤ N 3 ∧ N 3 ≤ 999 :=
  ⟨h 0 (by decide) (by decide), h 1 (by decide) (by decide), h 2 (by decide) (by decide), h 3 (by decide) (by decide)⟩
theorem yV11 {N : Int → Int} (h : zNV 11 N) : (1 ≤ N 0 ∧ N 0 ≤ 9) ∧ 0 ≤ N 1 ∧ N 1 ≤ N 0 :=
  ⟨h 0 (by decide) (by decide), h 1 (by decide) (by decide)⟩
theorem yV12 {N : Int → Int} (h : zNV 12 N) : (-40 ≤ N 0 ∧ N 0 ≤ 55) ∧ (-40 ≤ N 1 ∧ N 1 ≤ 55) ∧ -40 ≤ N 2 ∧ N 2 ≤ 55 :=
  ⟨h 0 (by decide) (by decide), h 1 (by decide) (by decide), h 2 (by decide) (by decide)⟩
theorem yV13 {N : Int → Int} (h : zNV 13 N) : (0 ≤ N 0 ∧ N 0 ≤ 2) ∧ 1 ≤ N 1 ∧ N 1 ≤ 16 :=
  ⟨h 0 (by decide) (by decide), h 1 (by decide) (by decide)⟩
theorem yV14 {N : Int → Int} (h : zNV 14 N) : (0 ≤ N 0 ∧ N 0 ≤ 2) ∧ 0 ≤ N 1 ∧ N 1 ≤ 15 :=
  ⟨h 0 (by decide) (by decide), h 1 (by decide) (by decide)⟩
theorem yV15 {N : Int → Int} (h : zNV 15 N) : (0 ≤ N 0 ∧ N 0 ≤ 2) ∧ (0 ≤ N 1 ∧ N 1 ≤ 2) ∧ N 1 ≠ N 0 := by
  have a : (0 ≤ N 0 ∧ N 0 ≤ 2) ∧ ((0 : Int) = 0 ∨ N 0 ≠ N 0) := h 0 (by decide) (by decide)
  have b : (0 ≤ N 1 ∧ N 1 ≤ 2) ∧ ((1 : Int) = 0 ∨ N 1 ≠ N 0) := h 1 (by decide) (by decide)
  omega
theorem yV16 {N : Int → Int} (h : zNV 16 N) : (-99 ≤ N 0 ∧ N 0 ≤ 99) ∧ 1 ≤ N 1 ∧ N 1 ≤ 9 :=
  ⟨h 0 (by decide) (by decide), h 1 (by decide) (by decide)⟩
theorem yV17 {N : Int → Int} (h : zNV 17 N) : (-99 ≤ N 0 ∧ N 0 ≤ 99) ∧ 1 ≤ N 1 ∧ N 1 ≤ 9 := by
  have a : (0 : Int) ≤ N 0 ∧ N 0 ≤ 99 := h 0 (by decide) (by decide)
  have b : 1 ≤ N 1 ∧ N 1 ≤ 9 := h 1 (by decide) (by decide)
  omega
/-- a row's three sorts -/
theorem yWS {T : Int → Int} {s : Int} (h : zWS T s) :
    (3 ≤ T (11 * s) ∧ T (11 * s) ≤ 5 ∧ T (11 * s + 3) = 0 ∧ T (11 * s + 4) = 0 ∧ T (11 * s + 1) = -1 ∧ T (11 * s + 2) = -1)
    ∨ (8 ≤ T (11 * s) ∧ T (11 * s) ≤ 11 ∧ (0 ≤ T (11 * s + 1) ∧ T (11 * s + 1) < s) ∧ (0 ≤ T (11 * s + 2) ∧ T (11 * s + 2) < s)
      ∧ T (11 * T (11 * s + 1) + 3) + 1 ≤ T (11 * s + 3) ∧ T (11 * T (11 * s + 2) + 3) + 1 ≤ T (11 * s + 3)
      ∧ T (11 * T (11 * s + 1) + 4) + (if T (11 * s) = 11 then 1 else 0) ≤ T (11 * s + 4) ∧ T (11 * T (11 * s + 2) + 4) + (if T (11 * s) = 11 then 1 else 0) ≤ T (11 * s + 4))
    ∨ (12 ≤ T (11 * s) ∧ T (11 * s) ≤ 17 ∧ (0 ≤ T (11 * s + 1) ∧ T (11 * s + 1) < s) ∧ T (11 * T (11 * s + 1) + 3) + 1 = T (11 * s + 3) ∧ T (11 * T (11 * s + 1) + 4) = T (11 * s + 4) ∧ T (11 * s + 2) = -1) := by
  obtain ⟨h, -⟩ := h
  rcases h with h | h | h
  · exact Or.inl (by omega)
  · exact Or.inr (Or.inl (by split at h <;> omega))
  · exact Or.inr (Or.inr (by omega))
theorem ysq2 {a n : Int} (h : -n ≤ a ∧ a ≤ n) : 0 ≤ a * a ∧ a * a ≤ n * n := by
  have hn : 0 ≤ n := by omega
  by_cases c : 0 ≤ a
  · exact ⟨Int.mul_nonneg c c, Int.mul_le_mul h.2 h.2 c hn⟩
  · rw [← Int.neg_mul_neg a a]
    exact ⟨Int.mul_nonneg (by omega) (by omega), Int.mul_le_mul (by omega) (by omega) (by omega) hn⟩
theorem ypr9 {a x : Int} (h : -9 ≤ a ∧ a ≤ 9) (g : -429 ≤ x ∧ x ≤ 429) : -3861 ≤ a * x ∧ a * x ≤ 3861 := by
  have : a = -9 ∨ a = -8 ∨ a = -7 ∨ a = -6 ∨ a = -5 ∨ a = -4 ∨ a = -3 ∨ a = -2 ∨ a = -1 ∨ a = 0 ∨ a = 1 ∨ a = 2 ∨ a = 3 ∨ a = 4 ∨ a = 5 ∨ a = 6 ∨ a = 7 ∨ a = 8 ∨ a = 9 := by omega
  rcases this with rfl | rfl | rfl | rfl | rfl | rfl | rfl | rfl | rfl | rfl | rfl | rfl | rfl | rfl | rfl | rfl | rfl | rfl | rfl <;> omega
def y429 (c x : Int) : Prop := -c ≤ x ∧ x ≤ c
theorem ysd_b {k : Int} {N : Int → Int} (hk : 3 ≤ k ∧ k ≤ 5) (h : zNV k N) {x y z : Int} (hx : -429 ≤ x ∧ x ≤ 429) (hy : -429 ≤ y ∧ y ≤ 429) (hz : -429 ≤ z ∧ z ≤ 429) : -702768 ≤ zsd k N x y z ∧ zsd k N x y z ≤ 702768 := by
  have : k = 3 ∨ k = 4 ∨ k = 5 := by omega
  rcases this with rfl | rfl | rfl
  · have v := yV3 h
    have a := ysq2 (a := x - N 0) (n := 484) (by omega)
    have b := ysq2 (a := y - N 1) (n := 484) (by omega)
    have c := ysq2 (a := z - N 2) (n := 484) (by omega)
    have d := ysq2 (a := N 3) (n := 40) (by omega)
    rw [zsd, if_pos rfl]
    omega
  · have v := yV4 h
    rw [zsd, if_neg (by decide), if_pos rfl]
    omega
  · have v := yV5 h
    have a := ypr9 v.1 hx
    have b := ypr9 v.2.1 hy
    have c := ypr9 v.2.2.1 hz
    rw [zsd, if_neg (by decide), if_neg (by decide)]
    omega
theorem ypick_b {C a x y z : Int} (hx : -C ≤ x ∧ x ≤ C) (hy : -C ≤ y ∧ y ≤ C) (hz : -C ≤ z ∧ z ≤ C) : -C ≤ zpick a x y z ∧ zpick a x y z ≤ C := by
  unfold zpick
  split
  · exact hx
  · split
    · exact hy
    · exact hz
theorem ymod_b {x b : Int} (h : 1 ≤ b ∧ b ≤ 16) : 0 ≤ x % b ∧ x % b < 16 := by
  have := Int.emod_nonneg x (show b ≠ 0 by omega)
  have := Int.emod_lt_of_pos x (show 0 < b by omega)
  omega
theorem ymv_b {k : Int} {N : Int → Int} (hk : 12 ≤ k ∧ k ≤ 17) (h : zNV k N) {C x y z : Int} (hC : 0 ≤ C) (hx : -C ≤ x ∧ x ≤ C) (hy : -C ≤ y ∧ y ≤ C) (hz : -C ≤ z ∧ z ≤ C) :
    (-(C + 55) ≤ (zmv k (N 0) (N 1) (N 2) x y z).1 ∧ (zmv k (N 0) (N 1) (N 2) x y z).1 ≤ C + 55) ∧ (-(C + 55) ≤ (zmv k (N 0) (N 1) (N 2) x y z).2.1 ∧ (zmv k (N 0) (N 1) (N 2) x y z).2.1 ≤ C + 55)
      ∧ -(C + 55) ≤ (zmv k (N 0) (N 1) (N 2) x y z).2.2 ∧ (zmv k (N 0) (N 1) (N 2) x y z).2.2 ≤ C + 55 := by
  have : k = 12 ∨ k = 13 ∨ k = 14 ∨ k = 15 ∨ k = 16 ∨ k = 17 := by omega
  rcases this with rfl | rfl | rfl | rfl | rfl | rfl
  · have v := yV12 h
    rw [zmv, if_pos rfl]
    dsimp only
    omega
  · have v := yV13 h
    rw [zmv, if_neg (by decide), if_pos rfl]
    dsimp only
    have a := ymod_b (x := x) v.2
    have b := ymod_b (x := y) v.2
    have c := ymod_b (x := z) v.2
    (repeat' split) <;> omega
  · have v := yV14 h
    rw [zmv, if_neg (by decide), if_neg (by decide), if_pos rfl]
    dsimp only
    (repeat' split) <;> omega
  · have p := ypick_b (a := N 0) hx hy hz
    have q := ypick_b (a := N 1) hx hy hz
    rw [zmv, if_neg (by decide), if_neg (by decide), if_neg (by decide), if_pos rfl]
    dsimp only
    (repeat' split) <;> omega
  · rw [zmv, if_neg (by decide), if_neg (by decide), if_neg (by decide), if_neg (by decide)]
    dsimp only; omega
  · rw [zmv, if_neg (by decide), if_neg (by decide), if_neg (by decide), if_neg (by decide)]
    dsimp only; omega
theorem yQ_pr {b b' D D' k n t A B : Int} (hk : 8 ≤ k ∧ k ≤ 11) (hb : 0 ≤ b) (h2 : b' ≤ 2) (e : b + (if k = 11 then 1 else 0) ≤ b') (hD : D ≤ D') (hn : k = 11 → (1 ≤ n ∧ n ≤ 9) ∧ 0 ≤ t ∧ t ≤ n) (qA : yQ b D A) (qB : yQ b D B) : yQ b' D' (zpr k n t A B) := by
  have : k = 8 ∨ k = 9 ∨ k = 10 ∨ k = 11 := by omega
  rcases this with rfl | rfl | rfl | rfl
  · exact yQ_up hb (by simp at e; omega) hD (yQ_min qA qB)
  · exact yQ_up hb (by simp at e; omega) hD (yQ_max qA qB)
  · exact yQ_up hb (by simp at e; omega) hD (yQ_max qA (yQ_neg qB))
  · have g := hn rfl
    simp at e
    exact yQ_up (by omega) e hD (yQ_bl qA qB ⟨hb, by omega⟩ g.1 g.2)
theorem yQ_ch {b D k g h A : Int} (hb : 0 ≤ b) (hn : (k = 16 ∨ k = 17) → (-99 ≤ g ∧ g ≤ 99) ∧ 1 ≤ h ∧ h ≤ 9) (q : yQ b D A) : yQ b (D + 1) (zch k g h A) := by
  unfold zch
  split
  · rename_i c; exact yQ_gr q (hn (Or.inl c)).2 (hn (Or.inl c)).1
  · split
    · rename_i c; exact yQ_gr (yQ_abs q) (hn (Or.inr c)).2 (hn (Or.inr c)).1
    · exact yQ_up hb (by omega) (by omega) q
theorem ymax_i {a b x : Int} (h : a ≤ x) (g : b ≤ x) : max a b ≤ x := by omega
theorem ya0 {s : Int} : 11 * s + 5 + 0 = 11 * s + 5 := by omega
theorem ya1 {s : Int} : 11 * s + 5 + 1 = 11 * s + 6 := by omega
theorem ya2 {s : Int} : 11 * s + 5 + 2 = 11 * s + 7 := by omega
theorem yQ_wd {T : Int → Int} {n : Int} (h : zWF T n) : ∀ (f : Nat) (s x y z : Int), 0 ≤ s → s < n → T (11 * s + 3) < f → (-(429 - 55 * T (11 * s + 3)) ≤ x ∧ x ≤ 429 - 55 * T (11 * s + 3)) → (-(429 - 55 * T (11 * s + 3)) ≤ y ∧ y ≤ 429 - 55 * T (11 * s + 3)) → (-(429 - 55 * T (11 * s + 3)) ≤ z ∧ z ≤ 429 - 55 * T (11 * s + 3)) →
    yQ (T (11 * s + 4)) (T (11 * s + 3)) (zwd T f s x y z) := by
  intro f
  induction f with
  | zero =>
    intro s x y z h0 h1 hf
    have := (h.2.2 s h0 h1).2.1
    omega
  | succ f ih =>
    intro s x y z h0 h1 hf hx hy hz
    have g := h.2.2 s h0 h1
    obtain ⟨-, g1, g2, g3, g4, g5⟩ := h.2.2 s h0 h1
    rw [zwd]
    rcases yWS g with c | c | c
    · rw [if_pos (by omega), c.2.2.1, c.2.2.2.1]
      exact yQ_s (ysd_b (by omega) g5 (by omega) (by omega) (by omega))
    · obtain ⟨c1, c2, c3, c4, c5, c6, c7, c8⟩ := c
      have gp := (h.2.2 _ c3.1 (by omega)).2
      have gq := (h.2.2 _ c4.1 (by omega)).2
      have ip := ih _ x y z c3.1 (by omega) (by omega) (by omega) (by omega) (by omega)
      have iq := ih _ x y z c4.1 (by omega) (by omega) (by omega) (by omega) (by omega)
      rw [if_neg (by omega), if_pos (by omega)]
      refine yQ_pr (b := max (T (11 * T (11 * s + 1) + 4)) (T (11 * T (11 * s + 2) + 4))) (D := max (T (11 * T (11 * s + 1) + 3)) (T (11 * T (11 * s + 2) + 3))) (by omega) (by omega) (by omega) (by omega) (by omega) (fun e => ?_) (yQ_up (by omega) (by omega) (by omega) ip) (yQ_up (by omega) (by omega) (by omega) iq)
      rw [e] at g5
      have v := yV11 g5
      rw [ya0, ya1] at v
      exact v
    · obtain ⟨c1, c2, c3, c4, c5, c6⟩ := c
      have gp := (h.2.2 _ c3.1 (by omega)).2
      have m := ymv_b ⟨c1, c2⟩ g5 (C := 429 - 55 * T (11 * s + 3)) (by omega) hx hy hz
      rw [ya0, ya1, ya2] at m
      rw [if_neg (by omega), if_neg (by omega)]
      generalize zmv (T (11 * s)) (T (11 * s + 5)) (T (11 * s + 6)) (T (11 * s + 7)) x y z = v at *
      have ip := ih _ v.1 v.2.1 v.2.2 c3.1 (by omega) (by omega) (by omega) (by omega) (by omega)
      have := yQ_ch (k := T (11 * s)) (g := T (11 * s + 5)) (h := T (11 * s + 6)) (by omega) (fun e => ?_) ip
      · rw [← c4, ← c5]; exact this
      · rcases e with e | e
        · rw [e] at g5
          have v := yV16 g5
          rw [ya0, ya1] at v
          exact v
        · rw [e] at g5
          have v := yV17 g5
          rw [ya0, ya1] at v
          exact v

/-! Bounds: how large; and that the worths within the region lie between them -/
def yrb (C : Int) (r : zrg) : Prop := ((-C ≤ r.1.1 ∧ r.1.1 ≤ C) ∧ -C ≤ r.1.2 ∧ r.1.2 ≤ C) ∧ ((-C ≤ r.2.1.1 ∧ r.2.1.1 ≤ C) ∧ -C ≤ r.2.1.2 ∧ r.2.1.2 ≤ C) ∧ (-C ≤ r.2.2.1 ∧ r.2.2.1 ≤ C) ∧ -C ≤ r.2.2.2 ∧ r.2.2.2 ≤ C
theorem yls_b {a b n : Int} (h : -n ≤ a ∧ a ≤ n) (g : -n ≤ b ∧ b ≤ n) : 0 ≤ zls a b ∧ zls a b ≤ n * n := by
  have x := ysq2 h
  have y := ysq2 g
  unfold zls
  split
  · omega
  · omega
theorem ysb_b {k : Int} {N : Int → Int} (hk : 3 ≤ k ∧ k ≤ 5) (h : zNV k N) {r : zrg} (hr : yrb 429 r) : (-702768 ≤ (zsb k N r).1 ∧ (zsb k N r).1 ≤ 702768) ∧ -702768 ≤ (zsb k N r).2 ∧ (zsb k N r).2 ≤ 702768 := by
  obtain ⟨⟨x0, x1⟩, ⟨y0, y1⟩, z0, z1⟩ := hr
  have : k = 3 ∨ k = 4 ∨ k = 5 := by omega
  rcases this with rfl | rfl | rfl
  · have v := yV3 h
    have a := yls_b (a := r.1.1 - N 0) (b := r.1.2 - N 0) (n := 484) (by omega) (by omega)
    have b := yls_b (a := r.2.1.1 - N 1) (b := r.2.1.2 - N 1) (n := 484) (by omega) (by omega)
    have c := yls_b (a := r.2.2.1 - N 2) (b := r.2.2.2 - N 2) (n := 484) (by omega) (by omega)
    have d := ysq2 (a := N 3) (n := 40) (by omega)
    have a1 := ysq2 (a := r.1.1 - N 0) (n := 484) (by omega)
    have a2 := ysq2 (a := r.1.2 - N 0) (n := 484) (by omega)
    have b1 := ysq2 (a := r.2.1.1 - N 1) (n := 484) (by omega)
    have b2 := ysq2 (a := r.2.1.2 - N 1) (n := 484) (by omega)
    have c1 := ysq2 (a := r.2.2.1 - N 2) (n := 484) (by omega)
    have c2 := ysq2 (a := r.2.2.2 - N 2) (n := 484) (by omega)
    rw [zsb, if_pos rfl]
    dsimp only
    omega
  · have v := yV4 h
    rw [zsb, if_neg (by decide), if_pos rfl]
    dsimp only
    omega
  · have v := yV5 h
    have a := ypr9 v.1 x0
    have b := ypr9 v.1 x1
    have c := ypr9 v.2.1 y0
    have d := ypr9 v.2.1 y1
    have e := ypr9 v.2.2.1 z0
    have f := ypr9 v.2.2.1 z1
    rw [zsb, if_neg (by decide), if_neg (by decide)]
    dsimp only
    omega
theorem yrpt_b {m : Int} {v : Int × Int} (h : 1 ≤ m ∧ m ≤ 16) : (0 ≤ (zrpt m v).1 ∧ (zrpt m v).1 ≤ 15) ∧ 0 ≤ (zrpt m v).2 ∧ (zrpt m v).2 ≤ 15 := by
  have a := ymod_b (x := v.1) h
  have b := ymod_b (x := v.2) h
  unfold zrpt
  split <;> (dsimp only; omega)
theorem ymir_b {c C : Int} {v : Int × Int} (h : 0 ≤ c ∧ c ≤ 15) (hC : 0 ≤ C) (a : -C ≤ v.1 ∧ v.1 ≤ C) (b : -C ≤ v.2 ∧ v.2 ≤ C) : (-(C + 55) ≤ (zmir c v).1 ∧ (zmir c v).1 ≤ C + 55) ∧ -(C + 55) ≤ (zmir c v).2 ∧ (zmir c v).2 ≤ C + 55 := by
  unfold zmir
  split
  · omega
  · split <;> (dsimp only; omega)
theorem ypk_b {C a : Int} {r : zrg} (h : yrb C r) : (-C ≤ (zpk a r).1 ∧ (zpk a r).1 ≤ C) ∧ -C ≤ (zpk a r).2 ∧ (zpk a r).2 ≤ C := by
  unfold zpk
  split
  · exact h.1
  · split
    · exact h.2.1
    · exact h.2.2
theorem yrb_up {C D : Int} {v : Int × Int} (h : C ≤ D) (g : (-C ≤ v.1 ∧ v.1 ≤ C) ∧ -C ≤ v.2 ∧ v.2 ≤ C) : (-D ≤ v.1 ∧ v.1 ≤ D) ∧ -D ≤ v.2 ∧ v.2 ≤ D := by omega
theorem yrb_i {C D : Int} {r : zrg} (h : C ≤ D) (g : yrb C r) : yrb D r := ⟨yrb_up h g.1, yrb_up h g.2.1, yrb_up h g.2.2⟩
theorem ymvr_b {k : Int} {N : Int → Int} (hk : 12 ≤ k ∧ k ≤ 17) (h : zNV k N) {C : Int} {r : zrg} (hC : 0 ≤ C) (hr : yrb C r) : yrb (C + 55) (zmvr k (N 0) (N 1) (N 2) r) := by
  have : k = 12 ∨ k = 13 ∨ k = 14 ∨ k = 15 ∨ k = 16 ∨ k = 17 := by omega
  have hr' := yrb_i (D := C + 55) (by omega) hr
  rcases this with rfl | rfl | rfl | rfl | rfl | rfl
  · have v := yV12 h
    rw [zmvr, if_pos rfl]
    obtain ⟨⟨x0, x1⟩, ⟨y0, y1⟩, z0, z1⟩ := hr
    unfold yrb; dsimp only; omega
  · have v := yV13 h
    rw [zmvr, if_neg (by decide), if_pos rfl]
    have f : ∀ u : Int × Int, (-(C + 55) ≤ (zrpt (N 1) u).1 ∧ (zrpt (N 1) u).1 ≤ C + 55) ∧ -(C + 55) ≤ (zrpt (N 1) u).2 ∧ (zrpt (N 1) u).2 ≤ C + 55 := fun u => by
      have := yrpt_b (v := u) v.2
      omega
    refine ⟨?_, ?_, ?_⟩ <;> dsimp only <;> split
    · exact f _
    · exact hr'.1
    · exact f _
    · exact hr'.2.1
    · exact f _
    · exact hr'.2.2
  · have v := yV14 h
    rw [zmvr, if_neg (by decide), if_neg (by decide), if_pos rfl]
    refine ⟨?_, ?_, ?_⟩ <;> dsimp only <;> split
    · exact ymir_b v.2 hC hr.1.1 hr.1.2
    · exact hr'.1
    · exact ymir_b v.2 hC hr.2.1.1 hr.2.1.2
    · exact hr'.2.1
    · exact ymir_b v.2 hC hr.2.2.1 hr.2.2.2
    · exact hr'.2.2
  · have p := ypk_b (a := N 0) hr'
    have q := ypk_b (a := N 1) hr'
    rw [zmvr, if_neg (by decide), if_neg (by decide), if_neg (by decide), if_pos rfl]
    refine ⟨?_, ?_, ?_⟩ <;> dsimp only <;> split
    · exact q
    · split
      · exact p
      · exact hr'.1
    · exact q
    · split
      · exact p
      · exact hr'.2.1
    · exact q
    · split
      · exact p
      · exact hr'.2.2
  · rw [zmvr, if_neg (by decide), if_neg (by decide), if_neg (by decide), if_neg (by decide)]
    exact hr'
  · rw [zmvr, if_neg (by decide), if_neg (by decide), if_neg (by decide), if_neg (by decide)]
    exact hr'
theorem yQ_0 {b D : Int} (hD : 0 ≤ D) : yQ b D 0 := by
  have := yM_b b
  refine ⟨⟨1, 0, by omega, by omega, by omega⟩, ⟨0, by omega⟩, ?_, ?_⟩ <;> (unfold zONE; omega)
def yQ2 (b D : Int) (v : Int × Int) : Prop := yQ b D v.1 ∧ yQ b D v.2
theorem yQ_pb {b b' D D' k n t : Int} {A B : Int × Int} (hk : 8 ≤ k ∧ k ≤ 11) (hb : 0 ≤ b) (h2 : b' ≤ 2) (e : b + (if k = 11 then 1 else 0) ≤ b') (hD : D ≤ D') (hn : k = 11 → (1 ≤ n ∧ n ≤ 9) ∧ 0 ≤ t ∧ t ≤ n) (qA : yQ2 b D A) (qB : yQ2 b D B) : yQ2 b' D' (zpb k n t A B) := by
  unfold zpb
  split
  · rename_i c
    rw [if_neg (by omega)] at e
    exact ⟨yQ_up hb (by omega) hD (yQ_max qA.1 (yQ_neg qB.2)), yQ_up hb (by omega) hD (yQ_max qA.2 (yQ_neg qB.1))⟩
  · exact ⟨yQ_pr hk hb h2 e hD hn qA.1 qB.1, yQ_pr hk hb h2 e hD hn qA.2 qB.2⟩
theorem yQ_cb {b D k g h : Int} {A : Int × Int} (hb : 0 ≤ b) (hD : 0 ≤ D) (hn : (k = 16 ∨ k = 17) → (-99 ≤ g ∧ g ≤ 99) ∧ 1 ≤ h ∧ h ≤ 9) (q : yQ2 b D A) : yQ2 b (D + 1) (zcb k g h A) := by
  unfold zcb
  split
  · rename_i c
    have v := hn (Or.inl c)
    exact ⟨yQ_gr q.1 v.2 v.1, yQ_gr q.2 v.2 v.1⟩
  · split
    · rename_i c
      have v := hn (Or.inr c)
      refine ⟨yQ_gr ?_ v.2 v.1, yQ_gr (yQ_max (yQ_abs q.1) (yQ_abs q.2)) v.2 v.1⟩
      split
      · exact yQ_0 hD
      · exact yQ_min (yQ_abs q.1) (yQ_abs q.2)
    · exact ⟨yQ_up hb (by omega) (by omega) q.1, yQ_up hb (by omega) (by omega) q.2⟩
theorem yQ_bd {T : Int → Int} {n : Int} (h : zWF T n) : ∀ (f : Nat) (s : Int) (r : zrg), 0 ≤ s → s < n → T (11 * s + 3) < f → yrb (429 - 55 * T (11 * s + 3)) r → yQ2 (T (11 * s + 4)) (T (11 * s + 3)) (zbd T f s r) := by
  intro f
  induction f with
  | zero =>
    intro s r h0 h1 hf
    have := (h.2.2 s h0 h1).2.1
    omega
  | succ f ih =>
    intro s r h0 h1 hf hr
    have g := h.2.2 s h0 h1
    obtain ⟨-, g1, g2, g3, g4, g5⟩ := h.2.2 s h0 h1
    rw [zbd]
    rcases yWS g with c | c | c
    · rw [if_pos (by omega), c.2.2.1, c.2.2.2.1]
      have := ysb_b (by omega) g5 (yrb_i (by omega) hr)
      exact ⟨yQ_s this.1, yQ_s this.2⟩
    · obtain ⟨c1, c2, c3, c4, c5, c6, c7, c8⟩ := c
      have gp := (h.2.2 _ c3.1 (by omega)).2
      have gq := (h.2.2 _ c4.1 (by omega)).2
      have ip := ih _ r c3.1 (by omega) (by omega) (yrb_i (by omega) hr)
      have iq := ih _ r c4.1 (by omega) (by omega) (yrb_i (by omega) hr)
      rw [if_neg (by omega), if_pos (by omega)]
      refine yQ_pb (b := max (T (11 * T (11 * s + 1) + 4)) (T (11 * T (11 * s + 2) + 4))) (D := max (T (11 * T (11 * s + 1) + 3)) (T (11 * T (11 * s + 2) + 3))) (by omega) (by omega) (by omega) (by omega) (by omega) (fun e => ?_)
        ⟨yQ_up (by omega) (by omega) (by omega) ip.1, yQ_up (by omega) (by omega) (by omega) ip.2⟩ ⟨yQ_up (by omega) (by omega) (by omega) iq.1, yQ_up (by omega) (by omega) (by omega) iq.2⟩
      rw [e] at g5
      have v := yV11 g5
      rw [ya0, ya1] at v
      exact v
    · obtain ⟨c1, c2, c3, c4, c5, c6⟩ := c
      have gp := (h.2.2 _ c3.1 (by omega)).2
      have m := ymvr_b ⟨c1, c2⟩ g5 (by omega) hr
      rw [ya0, ya1, ya2] at m
      rw [if_neg (by omega), if_neg (by omega)]
      have ip := ih _ _ c3.1 (by omega) (by omega) (yrb_i (by omega) m)
      have := yQ_cb (k := T (11 * s)) (g := T (11 * s + 5)) (h := T (11 * s + 6)) (by omega) (by omega) (fun e => ?_) ip
      · rw [← c4, ← c5]; exact this
      · rcases e with e | e
        · rw [e] at g5
          have v := yV16 g5
          rw [ya0, ya1] at v
          exact v
        · rw [e] at g5
          have v := yV17 g5
          rw [ya0, ya1] at v
          exact v
/-- x, y, z lie within a region -/
def yin (r : zrg) (x y z : Int) : Prop := (r.1.1 ≤ x ∧ x ≤ r.1.2) ∧ (r.2.1.1 ≤ y ∧ y ≤ r.2.1.2) ∧ r.2.2.1 ≤ z ∧ z ≤ r.2.2.2
theorem ysq_m {a b : Int} (h : 0 ≤ a) (g : a ≤ b) : a * a ≤ b * b := Int.mul_le_mul g g h (by omega)
theorem yls_l {a b v : Int} (h : a ≤ v ∧ v ≤ b) : zls a b ≤ v * v ∧ v * v ≤ max (a * a) (b * b) := by
  have k := ysq2 (a := v) (n := max v (-v)) (by omega)
  have n1 := Int.neg_mul_neg a a
  have n2 := Int.neg_mul_neg b b
  have n3 := Int.neg_mul_neg v v
  unfold zls
  by_cases c : 0 ≤ v
  · have y := ysq_m c h.2
    by_cases d : 0 ≤ a
    · have z := ysq_m d h.1
      split <;> omega
    · rw [if_pos (by omega)]; omega
  · have y := ysq_m (a := -v) (b := -a) (by omega) (by omega)
    by_cases d : 0 ≤ b
    · rw [if_pos (by omega)]; omega
    · have z := ysq_m (a := -b) (b := -v) (by omega) (by omega)
      split <;> omega
theorem yhf_l {n a b v : Int} (h : a ≤ v ∧ v ≤ b) : min (n * a) (n * b) ≤ n * v ∧ n * v ≤ max (n * a) (n * b) := by
  by_cases c : 0 ≤ n
  · have x := Int.mul_le_mul_of_nonneg_left h.1 c
    have y := Int.mul_le_mul_of_nonneg_left h.2 c
    omega
  · have x := Int.mul_le_mul_of_nonpos_left (show n ≤ 0 by omega) h.1
    have y := Int.mul_le_mul_of_nonpos_left (show n ≤ 0 by omega) h.2
    omega
theorem ysb_l {k : Int} {N : Int → Int} {r : zrg} {x y z : Int} (h : yin r x y z) : (zsb k N r).1 ≤ zsd k N x y z ∧ zsd k N x y z ≤ (zsb k N r).2 := by
  obtain ⟨hx, hy, hz⟩ := h
  unfold zsb zsd
  split
  · have a := yls_l (a := r.1.1 - N 0) (b := r.1.2 - N 0) (v := x - N 0) (by omega)
    have b := yls_l (a := r.2.1.1 - N 1) (b := r.2.1.2 - N 1) (v := y - N 1) (by omega)
    have c := yls_l (a := r.2.2.1 - N 2) (b := r.2.2.2 - N 2) (v := z - N 2) (by omega)
    dsimp only
    omega
  · split
    · dsimp only
      omega
    · have a := yhf_l (n := N 0) hx
      have b := yhf_l (n := N 1) hy
      have c := yhf_l (n := N 2) hz
      dsimp only
      omega
theorem yrpt_l {m x : Int} {v : Int × Int} (hm : 1 ≤ m) (h : v.1 ≤ x ∧ x ≤ v.2) : (zrpt m v).1 ≤ x % m ∧ x % m ≤ (zrpt m v).2 := by
  have a := Int.emod_nonneg x (show m ≠ 0 by omega)
  have b := Int.emod_lt_of_pos x (show 0 < m by omega)
  unfold zrpt
  split
  · rename_i c
    dsimp only
    have a1 := Int.emod_nonneg v.1 (show m ≠ 0 by omega)
    have b1 := Int.emod_lt_of_pos v.1 (show 0 < m by omega)
    have a2 := Int.emod_nonneg v.2 (show m ≠ 0 by omega)
    have b2 := Int.emod_lt_of_pos v.2 (show 0 < m by omega)
    have e1 := Int.mul_ediv_add_emod v.1 m
    have e2 := Int.mul_ediv_add_emod v.2 m
    have e0 := Int.mul_ediv_add_emod x m
    have q1 : v.1 / m ≤ x / m := Int.ediv_le_ediv (by omega) h.1
    have q2 : x / m ≤ v.2 / m := Int.ediv_le_ediv (by omega) h.2
    have q3 : v.2 / m = v.1 / m := by
      apply Classical.byContradiction
      intro u
      have q4 : v.1 / m + 1 ≤ v.2 / m := by omega
      have q5 := Int.mul_le_mul_of_nonneg_left q4 (show 0 ≤ m by omega)
      rw [Int.mul_add] at q5
      omega
    have q6 : x / m = v.1 / m := by omega
    rw [q6] at e0
    rw [q3] at e2
    omega
  · dsimp only; omega
theorem ymir_l {c x : Int} {v : Int × Int} (h : v.1 ≤ x ∧ x ≤ v.2) : (zmir c v).1 ≤ (if c < x then 2 * c - x else x) ∧ (if c < x then 2 * c - x else x) ≤ (zmir c v).2 := by
  unfold zmir
  split
  · rw [if_neg (by omega)]; exact h
  · split
    · rw [if_pos (by omega)]; dsimp only; omega
    · dsimp only; split <;> omega
theorem ypk_l {a x y z : Int} {r : zrg} (h : yin r x y z) : (zpk a r).1 ≤ zpick a x y z ∧ zpick a x y z ≤ (zpk a r).2 := by
  unfold zpk zpick
  split
  · exact h.1
  · split
    · exact h.2.1
    · exact h.2.2
theorem ymvr_l {k a b c : Int} {r : zrg} {x y z : Int} (hb : k = 13 → 1 ≤ b) (h : yin r x y z) : yin (zmvr k a b c r) (zmv k a b c x y z).1 (zmv k a b c x y z).2.1 (zmv k a b c x y z).2.2 := by
  unfold zmvr zmv
  by_cases c1 : k = 12
  · rw [if_pos c1, if_pos c1]
    unfold yin at h ⊢; dsimp only; omega
  rw [if_neg c1, if_neg c1]
  by_cases c2 : k = 13
  · rw [if_pos c2, if_pos c2]
    refine ⟨?_, ?_, ?_⟩ <;> dsimp only <;> split
    · exact yrpt_l (hb c2) h.1
    · exact h.1
    · exact yrpt_l (hb c2) h.2.1
    · exact h.2.1
    · exact yrpt_l (hb c2) h.2.2
    · exact h.2.2
  rw [if_neg c2, if_neg c2]
  by_cases c3 : k = 14
  · rw [if_pos c3, if_pos c3]
    refine ⟨?_, ?_, ?_⟩ <;> dsimp only
    · by_cases u : a = 0
      · have := ymir_l (c := b) h.1
        simp only [u, true_and, if_true]; exact this
      · rw [if_neg u, if_neg (fun v => u v.1)]; exact h.1
    · by_cases u : a = 1
      · have := ymir_l (c := b) h.2.1
        simp only [u, true_and, if_true]; exact this
      · rw [if_neg u, if_neg (fun v => u v.1)]; exact h.2.1
    · by_cases u : a = 2
      · have := ymir_l (c := b) h.2.2
        simp only [u, true_and, if_true]; exact this
      · rw [if_neg u, if_neg (fun v => u v.1)]; exact h.2.2
  rw [if_neg c3, if_neg c3]
  by_cases c4 : k = 15
  · rw [if_pos c4, if_pos c4]
    have p := ypk_l (a := a) h
    have q := ypk_l (a := b) h
    refine ⟨?_, ?_, ?_⟩ <;> dsimp only <;> split
    · exact q
    · split
      · exact p
      · exact h.1
    · exact q
    · split
      · exact p
      · exact h.2.1
    · exact q
    · split
      · exact p
      · exact h.2.2
  · rw [if_neg c4, if_neg c4]; exact h
theorem ypb_l {k n t : Int} {a b : Int × Int} {A B : Int} (hk : 8 ≤ k ∧ k ≤ 11) (hn : k = 11 → (1 ≤ n ∧ n ≤ 9) ∧ 0 ≤ t ∧ t ≤ n) (h : a.1 ≤ A ∧ A ≤ a.2) (g : b.1 ≤ B ∧ B ≤ b.2) : (zpb k n t a b).1 ≤ zpr k n t A B ∧ zpr k n t A B ≤ (zpb k n t a b).2 := by
  unfold zpb zpr
  have : k = 8 ∨ k = 9 ∨ k = 10 ∨ k = 11 := by omega
  rcases this with rfl | rfl | rfl | rfl
  · simp only [reduceIte, show (8 : Int) ≠ 10 by decide]; omega
  · simp only [reduceIte, show (9 : Int) ≠ 10 by decide, show (9 : Int) ≠ 8 by decide]; omega
  · simp only [reduceIte, show (10 : Int) ≠ 9 by decide, show (10 : Int) ≠ 8 by decide]; omega
  · simp only [reduceIte, show (11 : Int) ≠ 9 by decide, show (11 : Int) ≠ 8 by decide, show (11 : Int) ≠ 10 by decide]
    obtain ⟨n0, t0⟩ := hn rfl
    have a1 := Int.mul_le_mul_of_nonneg_right h.1 (show 0 ≤ n - t by omega)
    have a2 := Int.mul_le_mul_of_nonneg_right h.2 (show 0 ≤ n - t by omega)
    have b1 := Int.mul_le_mul_of_nonneg_right g.1 t0.1
    have b2 := Int.mul_le_mul_of_nonneg_right g.2 t0.1
    exact ⟨Int.ediv_le_ediv (by omega) (by omega), Int.ediv_le_ediv (by omega) (by omega)⟩
theorem ycb_l {k g h : Int} {a : Int × Int} {A : Int} (u : a.1 ≤ A ∧ A ≤ a.2) : (zcb k g h a).1 ≤ zch k g h A ∧ zch k g h A ≤ (zcb k g h a).2 := by
  unfold zcb zch
  split
  · dsimp only; omega
  · split
    · dsimp only
      split <;> omega
    · exact u
theorem ybd_l {T : Int → Int} {n : Int} (h : zWF T n) : ∀ (f : Nat) (s : Int) (r : zrg) (x y z : Int), 0 ≤ s → s < n → yin r x y z → (zbd T f s r).1 ≤ zwd T f s x y z ∧ zwd T f s x y z ≤ (zbd T f s r).2 := by
  intro f
  induction f with
  | zero => intro s r x y z _ _ _; exact ⟨Int.le_refl _, Int.le_refl _⟩
  | succ f ih =>
    intro s r x y z h0 h1 hr
    have g := h.2.2 s h0 h1
    obtain ⟨-, -, -, -, -, g5⟩ := h.2.2 s h0 h1
    rw [zbd, zwd]
    rcases yWS g with c | c | c
    · rw [if_pos (by omega), if_pos (by omega)]
      have := ysb_l (k := T (11 * s)) (N := fun i => T (11 * s + 5 + i)) hr
      exact ⟨Int.mul_le_mul_of_nonneg_right this.1 (by decide), Int.mul_le_mul_of_nonneg_right this.2 (by decide)⟩
    · obtain ⟨c1, c2, c3, c4, -⟩ := c
      rw [if_neg (by omega), if_pos (by omega), if_neg (by omega), if_pos (by omega)]
      refine ypb_l (by omega) (fun e => ?_) (ih _ r x y z c3.1 (by omega) hr) (ih _ r x y z c4.1 (by omega) hr)
      rw [e] at g5
      have v := yV11 g5
      rw [ya0, ya1] at v
      exact v
    · obtain ⟨c1, c2, c3, -⟩ := c
      rw [if_neg (by omega), if_neg (by omega), if_neg (by omega), if_neg (by omega)]
      refine ycb_l (ih _ _ _ _ _ c3.1 (by omega) (ymvr_l (fun e => ?_) hr))
      rw [e] at g5
      have v := yV13 g5
      rw [ya0, ya1] at v
      exact v.2.1
end
