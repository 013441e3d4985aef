section
/-! Pieces: what a search from place to place finds -/
def yval (q : Int) : Prop := 0 ≤ q ∧ q < 4096
def yadj (a q : Int) : Prop := ∃ i : Int, 0 ≤ i ∧ i < 6 ∧ ynb a i = q
/-- reached within so many steps, over places of g that s has not -/
def yRn (g s : Int → Bool) (p : Int) : Nat → Int → Prop
  | 0, q => q = p
  | n + 1, q => yRn g s p n q ∨ ∃ a, yRn g s p n a ∧ yadj a q ∧ yval q ∧ g q = true ∧ s q = false
def yRe (g s : Int → Bool) (p q : Int) : Prop := ∃ n, yRn g s p n q
theorem yRe_s {g s : Int → Bool} {p a q : Int} (h : yRe g s p a) (ha : yadj a q) (hq : yval q) (hg : g q = true) (hs : s q = false) : yRe g s p q := by
  obtain ⟨n, h⟩ := h
  exact ⟨n + 1, Or.inr ⟨a, h, ha, hq, hg, hs⟩⟩
def yup1 (s : Int → Bool) (q : Int) : Int → Bool := fun p => s p || decide (p = q)
theorem yct_1 {s : Int → Bool} {q : Int} : ∀ n : Nat, 0 ≤ q → s q = false → yct (yup1 s q) n = yct s n + (if q < n then 1 else 0) := by
  intro n
  induction n with
  | zero => intro h0 _; rw [if_neg (by omega)]; rfl
  | succ n ih =>
    intro h0 hs
    rw [yct_s, yct_s, ih h0 hs]
    unfold yup1
    by_cases c : (n : Int) = q
    · rw [c, hs, decide_eq_true rfl, if_neg (Int.lt_irrefl q), if_pos (show (false || true) = true from rfl), if_neg (show ¬ (false = true) by decide), if_pos (show q < ((n + 1 : Nat) : Int) by omega)]
    · rw [decide_eq_false c, Bool.or_false]
      by_cases c2 : q < n
      · rw [if_pos c2, if_pos (show q < ((n + 1 : Nat) : Int) by omega)]; omega
      · rw [if_neg c2, if_neg (show ¬ q < ((n + 1 : Nat) : Int) by omega)]; omega
theorem yct_lt {s : Int → Bool} {q : Int} {n : Nat} (h0 : 0 ≤ q) (h1 : q < n) (hs : s q = false) : yct s n < n := by
  have a := yct_1 n h0 hs
  have b := yct_le (yup1 s q) n
  rw [if_pos h1] at a
  omega
/-- what is true in the midst of a search -/
def yBI (g s0 : Int → Bool) (p0 : Int) (nb : Int → Int → Int) (seen : Int → Bool) (L : Int → Int) (fo dn i : Int) : Prop :=
  (∀ q, yval q → (seen q = true ↔ s0 q = true ∨ ∃ j, 0 ≤ j ∧ j < fo ∧ L j = q)) ∧ (∀ j, 0 ≤ j → j < fo → yval (L j) ∧ yRe g s0 p0 (L j)) ∧ 1 ≤ fo ∧ L 0 = p0
  ∧ (∀ j k, 0 ≤ j → j < fo → 0 ≤ k → (j < dn ∧ k < 6 ∨ j = dn ∧ k < i) → yval (nb (L j) k) → g (nb (L j) k) = true → seen (nb (L j) k) = true)
  ∧ fo + yct s0 4096 = yct seen 4096 ∧ 0 ≤ dn ∧ dn ≤ fo
theorem yBI_b {g s0 seen : Int → Bool} {p0 fo dn i : Int} {nb : Int → Int → Int} {L : Int → Int} (h : yBI g s0 p0 nb seen L fo dn i) : fo ≤ 4096 := by
  have := yct_le seen 4096
  have := h.2.2.2.2.2.1
  omega
theorem yBI_0 {g s0 seen : Int → Bool} {p0 : Int} {nb : Int → Int → Int} {L : Int → Int} (hp : yval p0) (hs : s0 p0 = false) (hL : L 0 = p0) (h : ∀ q, yval q → seen q = yup1 s0 p0 q) : yBI g s0 p0 nb seen L 1 0 0 := by
  refine ⟨fun q hq => ?_, fun j a b => ?_, by decide, hL, fun j k a b c d => ?_, ?_, by decide, by decide⟩
  · rw [h q hq]
    unfold yup1
    rw [Bool.or_eq_true, decide_eq_true_eq]
    constructor
    · rintro (u | u)
      · exact Or.inl u
      · exact Or.inr ⟨0, by decide, by decide, by rw [hL, u]⟩
    · rintro (u | ⟨j, a, b, c⟩)
      · exact Or.inl u
      · have : j = 0 := by omega
        subst this
        exact Or.inr (by omega)
  · have : j = 0 := by omega
    subst this
    rw [hL]
    exact ⟨hp, 0, rfl⟩
  · omega
  · rw [yct_c (n := 4096) (f := seen) (g := yup1 s0 p0) (fun p a b => h p ⟨a, b⟩), yct_1 4096 hp.1 hs, if_pos (show p0 < ((4096 : Nat) : Int) from hp.2)]
    omega
theorem yBI_n {g s0 seen : Int → Bool} {p0 fo dn i : Int} {nb : Int → Int → Int} {L : Int → Int} (h : yBI g s0 p0 nb seen L fo dn i) (hd : dn < fo) (hi : 0 ≤ i ∧ i < 6) (hn : ¬ (yval (nb (L dn) i) ∧ g (nb (L dn) i) = true ∧ seen (nb (L dn) i) = false)) : yBI g s0 p0 nb seen L fo dn (i + 1) := by
  obtain ⟨A, B, C, C', D, E, F⟩ := h
  refine ⟨A, B, C, C', fun j k a b c d x y => ?_, E, F⟩
  by_cases e : j = dn ∧ k = i
  · obtain ⟨rfl, rfl⟩ := e
    by_cases z : seen (nb (L j) k) = true
    · exact z
    · exact absurd ⟨x, y, Bool.eq_false_iff.2 z⟩ hn
  · exact D j k a b c (by omega) x y
theorem yBI_a {g s0 seen seen' : Int → Bool} {p0 fo dn i : Int} {nb : Int → Int → Int} {L L' : Int → Int} (hnb : ∀ a k, 0 ≤ k → k < 6 → yadj a (nb a k)) (h : yBI g s0 p0 nb seen L fo dn i) (hd : dn < fo) (hi : 0 ≤ i ∧ i < 6) (h1 : yval (nb (L dn) i)) (h2 : g (nb (L dn) i) = true) (h3 : seen (nb (L dn) i) = false)
    (hs : ∀ q, yval q → seen' q = yup1 seen (nb (L dn) i) q) (hL : ∀ j, 0 ≤ j → j < fo → L' j = L j) (hL' : L' fo = nb (L dn) i) : yBI g s0 p0 nb seen' L' (fo + 1) dn (i + 1) := by
  obtain ⟨A, B, C, C', D, E, F, G⟩ := h
  generalize hq : nb (L dn) i = q at *
  have hs0 : s0 q = false := by
    by_cases c : s0 q = true
    · have := (A q h1).2 (Or.inl c)
      rw [this] at h3
      cases h3
    · exact Bool.eq_false_iff.2 c
  refine ⟨fun r hr => ?_, fun j a b => ?_, by omega, by rw [hL 0 (by decide) (by omega)]; exact C', fun j k a b c d x y => ?_, ?_, by omega, by omega⟩
  · rw [hs r hr]
    unfold yup1
    rw [Bool.or_eq_true, decide_eq_true_eq, A r hr]
    constructor
    · rintro ((u | ⟨j, a, b, c⟩) | u)
      · exact Or.inl u
      · exact Or.inr ⟨j, a, by omega, by rw [hL j a b]; exact c⟩
      · exact Or.inr ⟨fo, by omega, by omega, by rw [hL', u]⟩
    · rintro (u | ⟨j, a, b, c⟩)
      · exact Or.inl (Or.inl u)
      · by_cases e : j = fo
        · rw [e, hL'] at c; exact Or.inr c.symm
        · exact Or.inl (Or.inr ⟨j, a, by omega, by rw [← hL j a (by omega)]; exact c⟩)
  · by_cases e : j = fo
    · rw [e, hL']
      refine ⟨h1, yRe_s (B dn F hd).2 ?_ h1 h2 hs0⟩
      rw [← hq]
      exact hnb _ _ hi.1 hi.2
    · rw [hL j a (by omega)]
      exact B j a (by omega)
  · have ex : ∀ r, yval r → seen r = true → seen' r = true := fun r hr u => by rw [hs r hr]; unfold yup1; rw [u]; rfl
    by_cases e : j = fo
    · omega
    · rw [hL j a (by omega)] at x y ⊢
      by_cases e2 : j = dn ∧ k = i
      · rw [e2.1, e2.2, hq, hs q h1]
        unfold yup1
        rw [decide_eq_true rfl, Bool.or_true]
      · exact ex _ x (D j k a (by omega) c (by omega) x y)
  · rw [yct_c (n := 4096) (f := seen') (g := yup1 seen q) (fun p a b => hs p ⟨a, b⟩), yct_1 4096 h1.1 h3, if_pos (show q < ((4096 : Nat) : Int) from h1.2)]
    omega
theorem yBI_6 {g s0 seen : Int → Bool} {p0 fo dn : Int} {nb : Int → Int → Int} {L : Int → Int} (h : yBI g s0 p0 nb seen L fo dn 6) (hd : dn < fo) : yBI g s0 p0 nb seen L fo (dn + 1) 0 := by
  obtain ⟨A, B, C, C', D, E, F, G⟩ := h
  exact ⟨A, B, C, C', fun j k a b c d x y => D j k a b c (by omega) x y, E, by omega, by omega⟩
theorem yBI_e {g s0 seen : Int → Bool} {p0 fo : Int} {nb : Int → Int → Int} {L : Int → Int} (hnb : ∀ a q, yadj a q → ∃ k, 0 ≤ k ∧ k < 6 ∧ nb a k = q) (h : yBI g s0 p0 nb seen L fo fo 0) :
    (∀ q, yval q → (seen q = true ↔ s0 q = true ∨ yRe g s0 p0 q)) ∧ fo = (yct seen 4096 : Int) - yct s0 4096 := by
  obtain ⟨A, B, C, C', D, E, F, G⟩ := h
  refine ⟨fun q hq => ?_, by omega⟩
  rw [A q hq]
  constructor
  · rintro (u | ⟨j, a, b, c⟩)
    · exact Or.inl u
    · exact Or.inr (c ▸ (B j a b).2)
  · rintro (u | ⟨n, u⟩)
    · exact Or.inl u
    · right
      have : ∀ n r, yRn g s0 p0 n r → ∃ j, 0 ≤ j ∧ j < fo ∧ L j = r := by
        intro n
        induction n with
        | zero => intro r hr; exact ⟨0, by decide, by omega, C'.trans hr.symm⟩
        | succ n ih =>
          intro r hr
          rcases hr with hr | ⟨a, ha, had, hv, hg, hs⟩
          · exact ih r hr
          · obtain ⟨j, j0, j1, j2⟩ := ih a ha
            obtain ⟨k, k0, k1, k2⟩ := hnb a r had
            have := D j k j0 j1 k0 (by omega) (by rw [j2, k2]; exact hv) (by rw [j2, k2]; exact hg)
            rw [j2, k2] at this
            rcases (A r hv).1 this with u | u
            · rw [hs] at u; cases u
            · exact u
      exact this n q u
theorem ynb_adj (a k : Int) (h0 : 0 ≤ k) (h1 : k < 6) : yadj a (ynb a k) := ⟨k, h0, h1, rfl⟩
theorem ynb_adj' (a q : Int) (h : yadj a q) : ∃ k, 0 ≤ k ∧ k < 6 ∧ ynb a k = q := h
theorem yng_s (a i j : Int) (h : (i = 0 ∧ j = 1) ∨ (i = 1 ∧ j = 0) ∨ (i = 2 ∧ j = 3) ∨ (i = 3 ∧ j = 2) ∨ (i = 4 ∧ j = 5) ∨ (i = 5 ∧ j = 4)) : yng a i = ynb a j := by
  rcases h with ⟨rfl, rfl⟩ | ⟨rfl, rfl⟩ | ⟨rfl, rfl⟩ | ⟨rfl, rfl⟩ | ⟨rfl, rfl⟩ | ⟨rfl, rfl⟩ <;> rfl
theorem yng_adj (a k : Int) (h0 : 0 ≤ k) (h1 : k < 6) : yadj a (yng a k) := by
  by_cases c : k % 2 = 0
  · exact ⟨k + 1, by omega, by omega, (yng_s a k (k + 1) (by omega)).symm⟩
  · exact ⟨k - 1, by omega, by omega, (yng_s a k (k - 1) (by omega)).symm⟩
theorem yng_adj' (a q : Int) (h : yadj a q) : ∃ k, 0 ≤ k ∧ k < 6 ∧ yng a k = q := by
  obtain ⟨k, h0, h1, e⟩ := h
  by_cases c : k % 2 = 0
  · exact ⟨k + 1, by omega, by omega, (yng_s a (k + 1) k (by omega)).trans e⟩
  · exact ⟨k - 1, by omega, by omega, (yng_s a (k - 1) k (by omega)).trans e⟩
/-- what is seen after a piece -/
noncomputable def ysn (g s : Int → Bool) (p : Int) : Int → Bool := fun q => @decide (s q = true ∨ yRe g s p q) (Classical.propDecidable _)
theorem ysn_i {g s seen : Int → Bool} {p q : Int} (h : seen q = true ↔ s q = true ∨ yRe g s p q) : seen q = ysn g s p q := by
  unfold ysn
  rw [Bool.eq_iff_iff, h]
  exact ⟨fun u => @decide_eq_true _ (Classical.propDecidable _) u, fun u => @of_decide_eq_true _ (Classical.propDecidable _) u⟩
/-- pieces, the greatest's size, the least place of it -/
noncomputable def yPc (g : Int → Bool) : Nat → Int → (Int → Bool) → Int → Int → Int → Int × Int × Int
  | 0, _, _, a, b, c => (a, b, c)
  | m + 1, k, s, a, b, c => if g k = true ∧ s k = false then yPc g m (k + 1) (ysn g s k) (a + 1) (max b ((yct (ysn g s k) 4096 : Int) - yct s 4096)) (if b < (yct (ysn g s k) 4096 : Int) - yct s 4096 then k else c) else yPc g m (k + 1) s a b c
end
