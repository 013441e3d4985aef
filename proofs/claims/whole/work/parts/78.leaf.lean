/-! Small questions of both programs; refusals -/
def zt (P : Prop) [Decidable P] : Int := if P then 1 else 0
theorem zt_if {α : Type} {P : Prop} [Decidable P] {A B : α} : (if zt P = 0 then A else B) = if P then B else A := by
  by_cases h : P
  · rw [zt, if_pos h, if_pos h]; rfl
  · rw [zt, if_neg h, if_neg h]; rfl
theorem zt_01 {α : Type} {P : Prop} [Decidable P] {A B : α} : (if 0 ≤ zt P ∧ zt P ≤ 1 then A else B) = A := by
  by_cases h : P
  · rw [zt, if_pos h]; rfl
  · rw [zt, if_neg h]; rfl
theorem zt_p {P : Prop} [Decidable P] (h : P) : zt P = 1 := if_pos h
theorem zt_n {P : Prop} [Decidable P] (h : ¬ P) : zt P = 0 := if_neg h
theorem zcmp_lt {α : Type} {x y : Int} {A B : α} : (if zar 22 x y < 0 then A else B) = if x < y then A else B := by
  rw [za_22, zcmp]
  (repeat' split) <;> first | rfl | omega
theorem zcmp_gt {α : Type} {x y : Int} {A B : α} : (if 0 < zar 22 x y then A else B) = if y < x then A else B := by
  rw [za_22, zcmp]
  (repeat' split) <;> first | rfl | omega
theorem zcmp_eq {α : Type} {x y : Int} {A B : α} : (if zar 22 x y = 0 then A else B) = if x = y then A else B := by
  rw [za_22, zcmp]
  (repeat' split) <;> first | rfl | omega
theorem s_200 (w : zW) (d : Nat) (x a b : Int) (σ : zMem) : zcall w d 200 [zI x, zI a, zI b] σ = some (zt (a ≤ x ∧ x ≤ b), σ) := by
  rw [eX11_isBetween, zt]
  (repeat' split) <;> first | rfl | omega
theorem s_201 (w : zW) (d : Nat) (x : Int) (σ : zMem) : zcall w d 201 [zI x] σ = some (zt (0 ≤ x ∧ x < 8), σ) := by
  rw [eX11_isShelf, zt]
  (repeat' split) <;> first | rfl | omega
theorem s_202 (w : zW) (d : Nat) (x : Int) (σ : zMem) : zcall w d 202 [zI x] σ = some (zt (0 ≤ x ∧ x < 4096), σ) := by
  rw [eX11_isPlace, zt]
  (repeat' split) <;> first | rfl | omega
theorem s_203 (w : zW) (d : Nat) (x : Int) (σ : zMem) : zcall w d 203 [zI x] σ = some (zt (0 ≤ x ∧ x < 3), σ) := by
  rw [eX11_isAxis, zt]
  (repeat' split) <;> first | rfl | omega
theorem s_110 (w : zW) (d : Nat) (a : Int) (σ : zMem) : zcall w d 110 [zA 10 8 a] σ = some (σ a 7, σ) := eX9_size w d a σ
theorem s_197 (w : zW) {d : Nat} (hd : 1 ≤ d) (x : Int) (σ : zMem) : zcall w d 197 [zA 12 16 1, zI x] σ = some (zt (0 ≤ x ∧ x < σ 2 7), σ) := by
  obtain ⟨d, rfl⟩ : ∃ e, d = e + 1 := ⟨d - 1, by omega⟩
  rw [eX11_isShape]
  simp only [s_110, Option.bind_some]
  rw [zt]
  (repeat' split) <;> first | rfl | omega
theorem s_213 (w : zW) (d : Nat) (x a b : Int) (σ : zMem) : zcall w d 213 [zJ x, zJ a, zJ b] σ = some (zt (a ≤ x ∧ x ≤ b), σ) := by
  rw [eX12_is]
  simp only [zcmp_lt, zcmp_gt]
  rw [zt]
  (repeat' split) <;> first | rfl | omega
theorem s_218 (w : zW) {d : Nat} (hd : 1 ≤ d) (x : Int) {σ : zMem} (h0 : 0 ≤ σ 209 1 ∧ σ 209 1 ≤ 24) : zcall w d 218 [zA 13 32 209, zI x] σ = some (zt (0 ≤ x ∧ x < σ 209 1), σ) := by
  obtain ⟨d, rfl⟩ : ∃ e, d = e + 1 := ⟨d - 1, by omega⟩
  rw [eX12_isShape, za_1, zw32_i (by omega)]
  simp only [s_213, Option.bind_some, zt_01]
  rw [zt, zt]
  (repeat' split) <;> first | rfl | omega
theorem s_307 (w : zW) {d : Nat} (hd : 1 ≤ d) (x : Int) (σ : zMem) : zcall w d 307 [zI x] σ = some (zt (0 ≤ x ∧ x < 8), σ) := by
  obtain ⟨d, rfl⟩ : ∃ e, d = e + 1 := ⟨d - 1, by omega⟩
  rw [eX12_isShelf]
  simp only [s_213, Option.bind_some, zt_01]
  rw [zt, zt]
  (repeat' split) <;> first | rfl | omega
def zrA (σ : zMem) (n : Int) : zMem := zup σ 208 (-62 - n) (zw32 (σ 208 (-62 - n) + 1))
def zrB (σ : zMem) (n : Int) : zMem := zup σ 211 (-62 - n) (zw32 (σ 211 (-62 - n) + 1))
theorem s_194 (w : zW) (d : Nat) {n : Int} (h : -66 ≤ n ∧ n ≤ -62) (σ : zMem) : zcall w d 194 [zA 12 16 1, zI n] σ = some (n, zrA σ n) := by
  have e : zar 1 (-62) n = -62 - n := by rw [za_1]; exact zw32_i (by omega)
  rw [eX11_refused, e, if_neg (by omega), if_pos (by omega), if_pos (by omega), if_pos (by omega), za_0]
  rfl
theorem s_214 (w : zW) (d : Nat) {n : Int} (h : -66 ≤ n ∧ n ≤ -62) (σ : zMem) : zcall w d 214 [zA 13 32 209, zI n] σ = some (n, zrB σ n) := by
  have e : zar 1 (zar 5 n 0) 62 = -62 - n := by rw [za_1, za_5, zw32_i (z := -n) (by omega), zw32_i (by omega)]; omega
  rw [eX12_refused, e, if_pos (by omega), if_pos (by omega), za_0]
  rfl
theorem s_215 (w : zW) {d : Nat} (hd : 1 ≤ d) {n : Int} (h : -66 ≤ n ∧ n ≤ -62) (σ : zMem) : zcall w d 215 [zA 13 32 209, zI n] σ = some (n - 9000000000000, zrB σ n) := by
  obtain ⟨d, rfl⟩ : ∃ e, d = e + 1 := ⟨d - 1, by omega⟩
  rw [eX12_refusedLong, s_214 w d h, Option.bind_some, za_13, zw64_i (by omega)]
/-- alike in all that stays true between calls -/
def zalk (σ σ' : zMem) : Prop := ∀ a k, zsX a k ∨ zsR a k → σ' a k = σ a k
theorem zalk_r (σ : zMem) : zalk σ σ := fun _ _ _ => rfl
theorem zalk_t {σ1 σ2 σ3 : zMem} (h : zalk σ1 σ2) (g : zalk σ2 σ3) : zalk σ1 σ3 := fun a k q => (g a k q).trans (h a k q)
theorem zalk_I {σ σ' : zMem} (t : zInv σ) (h : zalk σ σ') : zInv σ' := zInv_fr t (fun a k q => h a k (Or.inl q)) (zI_R_fr (fun a k q => h a k (Or.inr q)) t.2.2.2.2.2.2.1)
/-- a cell that nothing speaks of -/
theorem zalk_u {σ : zMem} {a k v : Int} (h : ¬ (zsX a k ∨ zsR a k)) : zalk σ (zup σ a k v) := fun a' k' q => by
  apply zup_f
  apply Classical.byContradiction
  intro u
  have e1 : a' = a := by omega
  have e2 : k' = k := by omega
  subst e1 e2
  exact h q
theorem zref {σ σa σb : zMem} {n : Int} (t : zInv σ) (ha : zalk σ σa) (hb : zalk (zrA σa n) σb) : zInv (zrB σb n) := by
  have n8 : ∀ a k, zsX a k → a ≠ 208 ∧ a ≠ 211 := by
    intro a k q
    unfold zsX zsT zsC zsK zsB zsS zsP at q
    omega
  refine zInv_fr t (fun a k q => ?_) fun i a b => ?_
  · rw [zrB, zup_f (Or.inl (n8 a k q).2), hb a k (Or.inl q), zrA, zup_f (Or.inl (n8 a k q).1), ha a k (Or.inl q)]
  · have hR := t.2.2.2.2.2.2.1 i a b
    have h1 : ∀ j, σb 208 j = zrA σa n 208 j := fun j => hb 208 j (Or.inr (Or.inl rfl))
    have h2 : ∀ j, σb 211 j = zrA σa n 211 j := fun j => hb 211 j (Or.inr (Or.inr rfl))
    have h3 : ∀ j, zrA σa n 211 j = σ 211 j := fun j => (zup_f (Or.inl (by decide))).trans (ha 211 j (Or.inr (Or.inr rfl)))
    have h4 : ∀ j, σa 208 j = σ 208 j := fun j => ha 208 j (Or.inr (Or.inl rfl))
    by_cases hi : i = -62 - n
    · rw [zrB, zup_f (Or.inl (by decide)), h1, zrA, zup_t ⟨rfl, hi, by decide⟩, zup_t ⟨rfl, hi, by decide⟩, h2, h3, h4, ← hi, hR]
    · rw [zrB, zup_f (Or.inl (by decide)), h1, zrA, zup_f (Or.inr hi), zup_f (Or.inr hi), h2, h3, h4, hR]
theorem zref0 {σ : zMem} {n : Int} (t : zInv σ) : zInv (zrB (zrA σ n) n) := zref t (zalk_r _) (zalk_r _)
theorem yref {w : zW} {y1 y2 : Nat} {as : List zV} {σ : zMem} {n : Int} (hI : zInv σ) (e1 : zcall w 999 y1 (zA 12 16 1 :: as) σ = some (n, zrA σ n)) (e2 : zcall w 999 y2 (zA 13 32 209 :: as) (zrA σ n) = some (n, zrB (zrA σ n) n)) :
    ∃ r σ1 σ2, zcall w 999 y1 (zA 12 16 1 :: as) σ = some (r, σ1) ∧ zcall w 999 y2 (zA 13 32 209 :: as) σ1 = some (r, σ2) ∧ zInv σ2 := ⟨n, _, _, e1, e2, zref0 hI⟩
/-- an answer by which nothing changes -/
theorem yask {w : zW} {y1 y2 : Nat} {as : List zV} {σ : zMem} {r : Int} (hI : zInv σ) (e1 : zcall w 999 y1 (zA 12 16 1 :: as) σ = some (r, σ)) (e2 : zcall w 999 y2 (zA 13 32 209 :: as) σ = some (r, σ)) :
    ∃ r σ1 σ2, zcall w 999 y1 (zA 12 16 1 :: as) σ = some (r, σ1) ∧ zcall w 999 y2 (zA 13 32 209 :: as) σ1 = some (r, σ2) ∧ zInv σ2 := ⟨r, _, _, e1, e2, hI⟩
theorem yop {w : zW} {y1 y2 : Nat} {as : List zV} {σ : zMem} (r : Int) (σ1 σ2 : zMem) (e1 : zcall w 999 y1 (zA 12 16 1 :: as) σ = some (r, σ1)) (e2 : zcall w 999 y2 (zA 13 32 209 :: as) σ1 = some (r, σ2)) (hI : zInv σ2) :
    ∃ r σ1 σ2, zcall w 999 y1 (zA 12 16 1 :: as) σ = some (r, σ1) ∧ zcall w 999 y2 (zA 13 32 209 :: as) σ1 = some (r, σ2) ∧ zInv σ2 := ⟨r, _, _, e1, e2, hI⟩
