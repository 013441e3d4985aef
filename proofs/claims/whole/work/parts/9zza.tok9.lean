section
/-! Call 9, shape: rows of both programs -/
def qkr (b t k p q : Int) : Prop := (3 ≤ k ∧ k ≤ 5 ∧ p = -1 ∧ q = -1) ∨ (8 ≤ k ∧ k ≤ 11 ∧ (b ≤ p ∧ p < t) ∧ b ≤ q ∧ q < t) ∨ (12 ≤ k ∧ k ≤ 17 ∧ (b ≤ p ∧ p < t) ∧ q = -1)
/-- row t of the class -/
def qrA (b : Int) (σ : zMem) (t : Int) : Prop :=
  qkr b t (σ 3 t) (σ 4 t) (σ 5 t) ∧ (σ 6 t = qde σ (σ 3 t) (σ 4 t) (σ 5 t) ∧ 0 ≤ σ 6 t ∧ σ 6 t ≤ 6) ∧ (σ 7 t = qbl σ (σ 3 t) (σ 4 t) (σ 5 t) ∧ 0 ≤ σ 7 t ∧ σ 7 t ≤ 2)
  ∧ (σ 8 t = qso σ (σ 3 t) (σ 4 t) (σ 5 t) ∧ 0 ≤ σ 8 t ∧ σ 8 t ≤ 2 ^ (σ 6 t).toNat) ∧ zNV (σ 3 t) (fun j => σ 9 (6 * t + j))
/-- .. and row s of the reference, which is the same -/
def qrB (b : Int) (σA σB : zMem) (s : Int) : Prop :=
  σB 224 (11 * s) = σA 3 (b + s) ∧ σB 224 (11 * s + 1) = (if σA 4 (b + s) < 0 then -1 else σA 4 (b + s) - b) ∧ σB 224 (11 * s + 2) = (if σA 5 (b + s) < 0 then -1 else σA 5 (b + s) - b) ∧ σB 224 (11 * s + 3) = σA 6 (b + s) ∧ σB 224 (11 * s + 4) = σA 7 (b + s)
  ∧ ∀ j, 0 ≤ j → j < zno (σA 3 (b + s)) → σB 224 (11 * s + 5 + j) = σA 9 (6 * (b + s) + j)
theorem qde_c {σ σ' : zMem} {b t k p q : Int} (hb : 0 ≤ b) (h : ∀ a s, 6 ≤ a → a ≤ 8 → 0 ≤ s → s < t → σ' a s = σ a s) (u : qkr b t k p q) : qde σ' k p q = qde σ k p q ∧ qbl σ' k p q = qbl σ k p q ∧ qso σ' k p q = qso σ k p q := by
  unfold qde qbl qso
  rcases u with ⟨x, y, rfl, rfl⟩ | ⟨x, y, hp, hq⟩ | ⟨x, y, hp, rfl⟩
  · simp only [if_pos y]; exact ⟨trivial, trivial, trivial⟩
  · rw [h 6 p (by decide) (by decide) (by omega) (by omega), h 6 q (by decide) (by decide) (by omega) (by omega), h 7 p (by decide) (by decide) (by omega) (by omega), h 7 q (by decide) (by decide) (by omega) (by omega), h 8 p (by decide) (by decide) (by omega) (by omega), h 8 q (by decide) (by decide) (by omega) (by omega)]
    exact ⟨rfl, rfl, rfl⟩
  · have n : (-1 : Int) < 0 := by decide
    rw [h 6 p (by decide) (by decide) (by omega) (by omega), h 7 p (by decide) (by decide) (by omega) (by omega), h 8 p (by decide) (by decide) (by omega) (by omega)]
    simp only [if_pos n]
    exact ⟨trivial, trivial, trivial⟩
theorem qrA_f {σ σ' : zMem} {b t : Int} (hb : 0 ≤ b) (ht : 0 ≤ t) (h : ∀ a s, 3 ≤ a → a ≤ 8 → 0 ≤ s → s ≤ t → σ' a s = σ a s) (g : ∀ s, s < 6 * t + 6 → σ' 9 s = σ 9 s) (u : qrA b σ t) : qrA b σ' t := by
  obtain ⟨u1, u2, u3, u4, u5⟩ := u
  have e := fun a x y => h a t x y ht (Int.le_refl _)
  obtain ⟨c1, c2, c3⟩ := qde_c (σ' := σ') hb (fun a s x y z v => h a s (by omega) y z (by omega)) u1
  unfold qrA
  rw [e 3 (by decide) (by decide), e 4 (by decide) (by decide), e 5 (by decide) (by decide), e 6 (by decide) (by decide), e 7 (by decide) (by decide), e 8 (by decide) (by decide), c1, c2, c3]
  exact ⟨u1, u2, u3, u4, zNV_c (fun i x y => g _ (by omega)) u5⟩
theorem qrB_f {σA σA' σB σB' : zMem} {b s : Int} (hb : 0 ≤ b) (hs : 0 ≤ s) (h : ∀ a t, 3 ≤ a → a ≤ 8 → 0 ≤ t → t ≤ b + s → σA' a t = σA a t) (g : ∀ t, t < 6 * (b + s) + 6 → σA' 9 t = σA 9 t) (f : ∀ t, t < 11 * s + 11 → σB' 224 t = σB 224 t) (u : qrB b σA σB s) : qrB b σA' σB' s := by
  obtain ⟨u1, u2, u3, u4, u5, u6⟩ := u
  have e := fun a x y => h a (b + s) x y (by omega) (Int.le_refl _)
  unfold qrB
  rw [e 3 (by decide) (by decide), e 4 (by decide) (by decide), e 5 (by decide) (by decide), e 6 (by decide) (by decide), e 7 (by decide) (by decide), f _ (by omega), f _ (by omega), f _ (by omega), f _ (by omega), f _ (by omega)]
  have z := zno_b6 (σA 3 (b + s))
  exact ⟨u1, u2, u3, u4, u5, fun j x y => by rw [f _ (by omega), g _ (by omega)]; exact u6 j x y⟩
theorem qrA_p {σ : zMem} {b t : Int} (ht : 0 ≤ t ∧ t < 88) (u : qrA b σ t) : qpt σ t := ⟨ht, u.2.1.2, u.2.2.1.2, u.2.2.2.1.2⟩
theorem s_72 (w : zW) {d : Nat} (hd : 3 ≤ d) {b r k p q : Int} {σ : zMem} (e27 : σ 2 7 = b) (e4 : σ 78 4 = r) (hb : 0 ≤ b) (hr : 0 ≤ r) (hbr : b + r < 88) (hk : qkr b (b + r) k p q) (hkp : qkp σ k p q) :
    ∃ σ', zcall w d 72 [zA 7 11 78, zA 10 8 2, zI k, zI p, zI q] σ = some (b + r, σ') ∧ σ' 3 (b + r) = k ∧ σ' 4 (b + r) = p ∧ σ' 5 (b + r) = q ∧ σ' 6 (b + r) = qde σ k p q ∧ σ' 7 (b + r) = qbl σ k p q ∧ σ' 8 (b + r) = qso σ k p q ∧ (∀ t, 0 ≤ t → t < 6 → σ' 9 (6 * (b + r) + t) = σ 84 t) ∧ σ' 78 4 = r + 1
      ∧ (∀ a t, ¬ (3 ≤ a ∧ a ≤ 9) → (a ≠ 78 ∨ t ≠ 4) → σ' a t = σ a t) ∧ (∀ a t, 3 ≤ a → a ≤ 8 → t ≠ b + r → σ' a t = σ a t) ∧ ∀ t, (t < 6 * (b + r) ∨ 6 * (b + r) + 6 ≤ t) → σ' 9 t = σ 9 t := by
  obtain ⟨d, rfl⟩ : ∃ e, d = e + 1 := ⟨d - 1, by omega⟩
  have z1 : zar 0 b r = b + r := by rw [za_0, zw32_i (by omega)]
  have z2 : zar 0 r 1 = r + 1 := by rw [za_0, zw32_i (by omega)]
  obtain ⟨σ', k1, k2, k3, k4, k5, k6, k7, k8, k9, kA, kB⟩ := s_122r w (d := d) (by omega) (n := b + r) (by omega) (by unfold qkr at hk; omega) (by unfold qkr at hk; omega) hkp
  refine ⟨zup σ' 78 4 (r + 1), ?_, (zup_f (by omega)).trans k2, (zup_f (by omega)).trans k3, (zup_f (by omega)).trans k4, (zup_f (by omega)).trans k5, (zup_f (by omega)).trans k6, (zup_f (by omega)).trans k7, fun t x y => (zup_f (by omega)).trans (k8 t x y), zup_t ⟨rfl, rfl, by decide⟩, fun a t x y => (zup_f (by omega)).trans (k9 a t x), fun a t x y z => (zup_f (by omega)).trans (kA a t x y z), fun t x => (zup_f (by omega)).trans (kB t x)⟩
  rw [eX6_write, s_110, Option.bind_some]
  dsimp only
  rw [e27, e4, z1, k1, Option.bind_some]
  dsimp only
  rw [k9 _ _ (by decide), e4, z2]
/-- what both do to have one more row -/
theorem q_row {b r kk k p q : Int} {σA σA' σB σB' : zMem} (hb : 0 ≤ b) (hr : 0 ≤ r) (hbr : b + r < 88) (hk : qkr b (b + r) k p q) (hkp : qkp σA k p q) (hde : qde σA k p q ≤ 6) (hbl : qbl σA k p q ≤ 2) (hN : zNV k (σA 84)) (ag : ∀ j, 0 ≤ j → j < zno k → σA 84 j = σB 225 (6 * kk + j))
    (a1 : σA' 3 (b + r) = k) (a2 : σA' 4 (b + r) = p) (a3 : σA' 5 (b + r) = q) (a4 : σA' 6 (b + r) = qde σA k p q) (a5 : σA' 7 (b + r) = qbl σA k p q) (a6 : σA' 8 (b + r) = qso σA k p q) (a7 : ∀ t, 0 ≤ t → t < 6 → σA' 9 (6 * (b + r) + t) = σA 84 t) (a8 : ∀ a t, 3 ≤ a → a ≤ 8 → t ≠ b + r → σA' a t = σA a t)
    (b1 : σB' 224 (11 * r) = k) (b2 : σB' 224 (11 * r + 1) = (if p < 0 then -1 else p - b)) (b3 : σB' 224 (11 * r + 2) = (if q < 0 then -1 else q - b)) (b4 : σB' 224 (11 * r + 3) = qde σA k p q) (b5 : σB' 224 (11 * r + 4) = qbl σA k p q) (b6 : ∀ j, 0 ≤ j → j < 6 → σB' 224 (11 * r + 5 + j) = σB 225 (6 * kk + j)) :
    qrA b σA' (b + r) ∧ qrB b σA' σB' r := by
  obtain ⟨u1, u2, u3, u4, -⟩ := qkp_b hkp
  obtain ⟨c1, c2, c3⟩ := qde_c (σ' := σA') hb (fun a s x y z v => a8 a s (by omega) y (by omega)) hk
  have z := zno_b6 k
  refine ⟨?_, ?_⟩
  · unfold qrA
    rw [a1, a2, a3, a4, a5, a6, c1, c2, c3]
    exact ⟨hk, ⟨rfl, by omega, hde⟩, ⟨rfl, by omega, hbl⟩, ⟨rfl, by omega, u4⟩, zNV_c (fun i x y => a7 i x y) hN⟩
  · unfold qrB
    rw [a1, a2, a3, a4, a5]
    exact ⟨b1, b2, b3, b4, b5, fun j x y => by rw [b6 j x (by omega), a7 j x (by omega)]; exact (ag j x y).symm⟩
/-- the reference's questions about a part's row -/
theorem q_dp {b r k p q : Int} {σA σB : zMem} (hb : 0 ≤ b) (rows : ∀ s, 0 ≤ s → s < r → qrA b σA (b + s) ∧ qrB b σA σB s) (hk : qkr b (b + r) k p q) : qDe (σB 224) k (if p < 0 then -1 else p - b) (if q < 0 then -1 else q - b) = qde σA k p q ∧ qBl (σB 224) k (if p < 0 then -1 else p - b) (if q < 0 then -1 else q - b) = qbl σA k p q := by
  have at1 : ∀ x : Int, b ≤ x → x < b + r → σB 224 (11 * (x - b) + 3) = σA 6 x ∧ σB 224 (11 * (x - b) + 4) = σA 7 x := by
    intro x x0 x1
    obtain ⟨-, -, -, -, u4, u5, -⟩ := rows (x - b) (by omega) (by omega)
    rw [show b + (x - b) = x by omega] at u4 u5
    exact ⟨u4, u5⟩
  unfold qDe qBl qde qbl
  rcases hk with ⟨x, y, rfl, rfl⟩ | ⟨x, y, hp, hq⟩ | ⟨x, y, hp, rfl⟩
  · simp only [if_pos y]; exact ⟨trivial, trivial⟩
  · have n1 : ¬ k ≤ 5 := by omega
    have n2 : ¬ p < 0 := by omega
    have n3 : ¬ q < 0 := by omega
    have n4 : ¬ q - b < 0 := by omega
    simp only [if_neg n1, if_neg n2, if_neg n3, if_neg n4]
    rw [(at1 p hp.1 hp.2).1, (at1 p hp.1 hp.2).2, (at1 q hq.1 hq.2).1, (at1 q hq.1 hq.2).2]
    exact ⟨rfl, rfl⟩
  · have n1 : ¬ k ≤ 5 := by omega
    have n2 : ¬ p < 0 := by omega
    have n3 : (-1 : Int) < 0 := by decide
    simp only [if_neg n1, if_neg n2, if_pos n3]
    rw [(at1 p hp.1 hp.2).1, (at1 p hp.1 hp.2).2]
    exact ⟨rfl, rfl⟩
end
