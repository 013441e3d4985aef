/-! Places as bits -/
theorem zu64_w (n : Nat) : zu64 (zw64 (n : Int)) = n % 2 ^ 64 := by
  unfold zu64 zw64
  have : (Int.bmod (n : Int) 18446744073709551616) % 18446744073709551616 = (n : Int) % 18446744073709551616 := Int.bmod_emod (m := 18446744073709551616)
  rw [this]
  omega
theorem zu64_and (x y : Int) : zu64 (zar 17 x y) = zu64 x &&& zu64 y := by
  rw [za_17, zandL, zu64_w, Nat.mod_eq_of_lt (Nat.and_lt_two_pow _ (zu64_lt y))]
theorem zu64_or (x y : Int) : zu64 (zar 18 x y) = zu64 x ||| zu64 y := by
  rw [za_18, zorL, zu64_w, Nat.mod_eq_of_lt (Nat.or_lt_two_pow (zu64_lt x) (zu64_lt y))]
theorem zu64_xor (x y : Int) : zu64 (zar 19 x y) = zu64 x ^^^ zu64 y := by
  rw [za_19, zxorL, zu64_w, Nat.mod_eq_of_lt (Nat.xor_lt_two_pow (zu64_lt x) (zu64_lt y))]
theorem zu32_s {s : Int} (h : 0 ≤ s ∧ s < 64) : zu32 s % 64 = s.toNat := by unfold zu32; omega
theorem zu64_shr (x : Int) {s : Int} (h : 0 ≤ s ∧ s < 64) : zu64 (zar 21 x s) = zu64 x / 2 ^ s.toNat := by
  have h1 := Nat.div_le_self (zu64 x) (2 ^ s.toNat)
  have h2 := zu64_lt x
  rw [za_21, zushrL, zu32_s h, zu64_w, Nat.mod_eq_of_lt (by omega)]
theorem zu64_shl1 {s : Int} (h : 0 ≤ s ∧ s < 64) : zu64 (zar 20 1 s) = 2 ^ s.toNat := by
  have e : (1 : Int) * 2 ^ s.toNat = ((2 ^ s.toNat : Nat) : Int) := by rw [Int.one_mul]; simp
  have h2 : 2 ^ s.toNat < 2 ^ 64 := Nat.pow_lt_pow_right (by decide) (by omega)
  rw [za_20, zshlL, zu32_s h, e, zu64_w, Nat.mod_eq_of_lt h2]
theorem zar3_64 {p : Int} (h : 0 ≤ p ∧ p < 4096) : zar 3 p 64 = p / 64 := by
  rw [za_3, Int.tdiv_eq_ediv_of_nonneg h.1, zw32_i (by omega)]
theorem zar4_64 {p : Int} (h : 0 ≤ p ∧ p < 4096) : zar 4 p 64 = p % 64 := by
  rw [za_4, Int.tmod_eq_emod_of_nonneg h.1]
theorem ybit_q {α : Type} (σ : zMem) (o : Int) {p : Int} {A B : α} : (if zar 22 (zar 17 (zar 21 (σ o (p / 64)) (p % 64)) 1) 0 = 0 then A else B) = if zbit σ o p = true then B else A := by
  rw [zcmp_eq]
  have e : zar 17 (zar 21 (σ o (p / 64)) (p % 64)) 1 = ((zu64 (σ o (p / 64)) / 2 ^ (p % 64).toNat % 2 : Nat) : Int) := by
    have h1 : zar 17 (zar 21 (σ o (p / 64)) (p % 64)) 1 = zw64 ((zu64 (zar 21 (σ o (p / 64)) (p % 64)) &&& zu64 1 : Nat) : Int) := by rw [za_17]; rfl
    have h2 : zu64 1 = 1 := rfl
    have h3 := Nat.mod_lt (zu64 (σ o (p / 64)) / 2 ^ (p % 64).toNat) (show 0 < 2 by decide)
    rw [h1, h2, Nat.and_one_is_mod, zu64_shr _ (by omega), zw64_i (by omega)]
  rw [e, zbit, Nat.testBit_eq_decide_div_mod_eq]
  by_cases c : zu64 (σ o (p / 64)) / 2 ^ (p % 64).toNat % 2 = 1
  · rw [if_neg (by omega), if_pos (by simp [c])]
  · rw [if_pos (by omega), if_neg (by simp [c])]
theorem s_49 (w : zW) {d : Nat} (hd : 1 ≤ d) (a p : Int) (σ : zMem) : zcall w d 49 [zA 6 1 a, zI p] σ = some (zt ((0 ≤ p ∧ p < 4096) ∧ zbit σ (zR w a 0) p = true), σ) := by
  obtain ⟨d, rfl⟩ : ∃ e, d = e + 1 := ⟨d - 1, by omega⟩
  rw [eX5_contains, s_202, Option.bind_some]
  dsimp only
  rw [zt_if]
  by_cases h : 0 ≤ p ∧ p < 4096
  · rw [if_pos h, zar3_64 h, zar4_64 h, if_pos (by omega), ybit_q]
    by_cases c : zbit σ (zR w a 0) p = true
    · rw [if_pos c, zt_p ⟨h, c⟩]
    · rw [if_neg c, zt_n (fun q => c q.2)]
  · rw [if_neg h, zt_n (fun q => h q.1)]
/-- a place more -/
noncomputable def yset (o p : Int) (σ : zMem) : zMem := zup σ o (p / 64) (zar 18 (σ o (p / 64)) (zar 20 1 (p % 64)))
theorem yset_f {o p : Int} {σ : zMem} {a k : Int} (h : a ≠ o ∨ k ≠ p / 64) : yset o p σ a k = σ a k := zup_f h
theorem zbit_set {o p q : Int} {σ : zMem} (ho : o ≠ 0) (hp : 0 ≤ p) (hq : 0 ≤ q) : zbit (yset o p σ) o q = (zbit σ o q || decide (q = p)) := by
  by_cases e : q / 64 = p / 64
  · have e2 : yset o p σ o (q / 64) = zar 18 (σ o (p / 64)) (zar 20 1 (p % 64)) := zup_t ⟨rfl, e, ho⟩
    rw [zbit, zbit, e2, zu64_or, Nat.testBit_or, zu64_shl1 (by omega), Nat.testBit_two_pow, e]
    congr 1
    by_cases c : q = p
    · rw [c]; simp
    · have : (p % 64).toNat ≠ (q % 64).toNat := by omega
      simp [c, this]
  · have c : q ≠ p := fun q => e (by rw [q])
    rw [zbit, zbit, yset_f (Or.inr e)]
    simp [c]
theorem zbit_set_f {o o' p q : Int} {σ : zMem} (h : o' ≠ o) : zbit (yset o p σ) o' q = zbit σ o' q := zbit_fr fun k => yset_f (Or.inl h)
theorem s_50 (w : zW) {d : Nat} (hd : 1 ≤ d) (a : Int) {p : Int} (h : 0 ≤ p ∧ p < 4096) (σ : zMem) : zcall w d 50 [zA 6 1 a, zI p] σ = some (0, yset (zR w a 0) p σ) := by
  obtain ⟨d, rfl⟩ : ∃ e, d = e + 1 := ⟨d - 1, by omega⟩
  rw [eX5_add, s_202, Option.bind_some]
  dsimp only
  rw [zt_if, if_pos h, zar3_64 h, zar4_64 h, if_pos (by omega), if_pos (by omega)]
  rfl
/-- words from lo on become what f says -/
def ywm (o : Int) (f : Int → Int) (lo : Int) (σ : zMem) : zMem := fun a k => if a = o ∧ lo ≤ k ∧ k < 64 then f k else σ a k
theorem ywm_t {o : Int} {f : Int → Int} {lo : Int} {σ : zMem} {a k : Int} (h : a = o ∧ lo ≤ k ∧ k < 64) : ywm o f lo σ a k = f k := if_pos h
theorem ywm_f {o : Int} {f : Int → Int} {lo : Int} {σ : zMem} {a k : Int} (h : ¬ (a = o ∧ lo ≤ k ∧ k < 64)) : ywm o f lo σ a k = σ a k := if_neg h
theorem ywm_up {o : Int} {f : Int → Int} {lo : Int} {σ : zMem} (ho : o ≠ 0) (h : lo < 64) : ywm o f (lo + 1) (zup σ o lo (f lo)) = ywm o f lo σ := by
  funext a k
  by_cases h1 : a = o ∧ lo + 1 ≤ k ∧ k < 64
  · rw [ywm_t h1, ywm_t (by omega)]
  · rw [ywm_f h1]
    by_cases h2 : a = o ∧ k = lo
    · rw [zup_t ⟨h2.1, h2.2, ho⟩, ywm_t (by omega), h2.2]
    · rw [zup_f (by omega), ywm_f (by omega)]
theorem ywm_e {o : Int} {f : Int → Int} {σ : zMem} : ywm o f 64 σ = σ := by
  funext a k
  exact ywm_f (by omega)
theorem zbit_wm {o : Int} {f : Int → Int} {σ : zMem} {p : Int} (h : 0 ≤ p ∧ p < 4096) : zbit (ywm o f 0 σ) o p = (zu64 (f (p / 64))).testBit (p % 64).toNat := by
  rw [zbit, ywm_t (by omega)]
theorem l_52 (w : zW) (d : Nat) {a : Int} (ha : zR w a 0 ≠ 0) : ∀ (m : Nat) (k : Int) (σ : zMem), 0 ≤ k → k + m = 64 → zden w d 52 2 [zA 6 1 a, zI k] [] σ = some (0, ywm (zR w a 0) (fun _ => 0) k σ) := by
  intro m
  induction m with
  | zero =>
    intro k σ h0 h
    have : k = 64 := by omega
    subst this
    rw [hX5_clear_2, if_neg (by omega), ywm_e]
  | succ m ih =>
    intro k σ h0 h
    rw [hX5_clear_2, if_pos (by omega), if_pos (by omega), za_0, zw32_i (by omega), ih (k + 1) _ (by omega) (by omega), ywm_up (f := fun _ => 0) ha (by omega)]
theorem s_52 (w : zW) (d : Nat) {a : Int} (ha : zR w a 0 ≠ 0) (σ : zMem) : zcall w d 52 [zA 6 1 a] σ = some (0, ywm (zR w a 0) (fun _ => 0) 0 σ) := by
  rw [eX5_clear, l_52 w d ha 64 0 σ (by omega) (by omega)]
theorem l_53 (w : zW) (d : Nat) {a b : Int} (ha : zR w a 0 ≠ 0) {f : Int → Int} : ∀ (m : Nat) (k : Int) (σ : zMem), 0 ≤ k → k + m = 64 → (∀ j, k ≤ j → j < 64 → σ (zR w b 0) j = f j) →
    zden w d 53 2 [zA 6 1 a, zA 6 1 b, zI k] [] σ = some (0, ywm (zR w a 0) f k σ) := by
  intro m
  induction m with
  | zero =>
    intro k σ h0 h hf
    have : k = 64 := by omega
    subst this
    rw [hX5_takeFrom_2, if_neg (by omega), ywm_e]
  | succ m ih =>
    intro k σ h0 h hf
    rw [hX5_takeFrom_2, if_pos (by omega), if_pos (by omega), if_pos (by omega), za_0, zw32_i (by omega), hf k (by omega) (by omega), ih (k + 1) _ (by omega) (by omega) (fun j p q => (zup_f (by omega)).trans (hf j (by omega) q)), ywm_up ha (by omega)]
theorem s_53 (w : zW) (d : Nat) {a b : Int} (ha : zR w a 0 ≠ 0) (σ : zMem) : zcall w d 53 [zA 6 1 a, zA 6 1 b] σ = some (0, ywm (zR w a 0) (fun k => σ (zR w b 0) k) 0 σ) := by
  rw [eX5_takeFrom, l_53 w d ha (f := fun k => σ (zR w b 0) k) 64 0 σ (by omega) (by omega) (fun _ _ _ => rfl)]
theorem l_56 (w : zW) (d : Nat) {a b : Int} (ha : zR w a 0 ≠ 0) {f : Int → Int} : ∀ (m : Nat) (k : Int) (σ : zMem), 0 ≤ k → k + m = 64 → (∀ j, k ≤ j → j < 64 → zar 19 (σ (zR w a 0) j) (σ (zR w b 0) j) = f j) →
    zden w d 56 2 [zA 6 1 a, zA 6 1 b, zI k] [] σ = some (0, ywm (zR w a 0) f k σ) := by
  intro m
  induction m with
  | zero =>
    intro k σ h0 h hf
    have : k = 64 := by omega
    subst this
    rw [hX5_flip_2, if_neg (by omega), ywm_e]
  | succ m ih =>
    intro k σ h0 h hf
    rw [hX5_flip_2, if_pos (by omega), if_pos (by omega), if_pos (by omega), if_pos (by omega), za_0, zw32_i (by omega), hf k (by omega) (by omega), ih (k + 1) _ (by omega) (by omega) (fun j p q => by
      rw [zup_f (by omega), zup_f (by omega)]
      exact hf j (by omega) q), ywm_up ha (by omega)]
theorem s_56 (w : zW) (d : Nat) {a b : Int} (ha : zR w a 0 ≠ 0) (σ : zMem) : zcall w d 56 [zA 6 1 a, zA 6 1 b] σ = some (0, ywm (zR w a 0) (fun k => zar 19 (σ (zR w a 0) k) (σ (zR w b 0) k)) 0 σ) := by
  rw [eX5_flip, l_56 w d ha (f := fun k => zar 19 (σ (zR w a 0) k) (σ (zR w b 0) k)) 64 0 σ (by omega) (by omega) (fun _ _ _ => rfl)]
/-- what a carving changes, word by word -/
noncomputable def ycw (how x y : Int) : Int := if how = 0 then zar 17 y (zar 19 x (-1)) else if how = 1 then zar 17 y x else if how = 2 then zar 17 x (zar 19 y (-1)) else y
theorem l_55 (w : zW) (d : Nat) {a b c how : Int} (ha : zR w a 0 ≠ 0) {f : Int → Int} : ∀ (m : Nat) (k : Int) (v5 v7 : zV) (σ : zMem), 0 ≤ k → k + m = 64 → (∀ j, k ≤ j → j < 64 → ycw how (σ (zR w b 0) j) (σ (zR w c 0) j) = f j) →
    zden w d 55 2 [zA 6 1 a, zA 6 1 b, zA 6 1 c, zI how, zI k, v5, zU, v7, zU] [] σ = some (0, ywm (zR w a 0) f k σ) := by
  intro m
  induction m with
  | zero =>
    intro k v5 v7 σ h0 h hf
    have : k = 64 := by omega
    subst this
    rw [hX5_becomeCarving_2, if_neg (by omega), ywm_e]
  | succ m ih =>
    intro k v5 v7 σ h0 h hf
    have key : ∀ (v5 v7 : zV), zden w d 55 2 [zA 6 1 a, zA 6 1 b, zA 6 1 c, zI how, zI (k + 1), v5, zU, v7, zU] [] (zup σ (zR w a 0) k (f k)) = some (0, ywm (zR w a 0) f k σ) := fun v5 v7 => by
      rw [ih (k + 1) _ _ _ (by omega) (by omega) (fun j p q => by
        rw [zup_f (by omega), zup_f (by omega)]
        exact hf j (by omega) q), ywm_up ha (by omega)]
    have hk := hf k (by omega) (by omega)
    unfold ycw at hk
    rw [hX5_becomeCarving_2, if_pos (by omega), if_pos (by omega), if_pos (by omega), za_0, zw32_i (by omega)]
    by_cases c0 : how = 0
    · rw [if_pos c0] at hk
      rw [if_pos c0, if_pos (by omega), hk]
      exact key _ _
    rw [if_neg c0] at hk ⊢
    by_cases c1 : how = 1
    · rw [if_pos c1] at hk
      rw [if_pos c1, if_pos (by omega), hk]
      exact key _ _
    rw [if_neg c1] at hk ⊢
    by_cases c2 : how = 2
    · rw [if_pos c2] at hk
      rw [if_pos c2, if_pos (by omega), hk]
      exact key _ _
    rw [if_neg c2] at hk ⊢
    rw [if_pos (by omega), hk]
    exact key _ _
theorem s_55 (w : zW) (d : Nat) {a b c how : Int} (ha : zR w a 0 ≠ 0) (σ : zMem) : zcall w d 55 [zA 6 1 a, zA 6 1 b, zA 6 1 c, zI how] σ = some (0, ywm (zR w a 0) (fun k => ycw how (σ (zR w b 0) k) (σ (zR w c 0) k)) 0 σ) := by
  rw [eX5_becomeCarving, l_55 w d ha (f := fun k => ycw how (σ (zR w b 0) k) (σ (zR w c 0) k)) 64 0 _ _ σ (by omega) (by omega) (fun _ _ _ => rfl)]
