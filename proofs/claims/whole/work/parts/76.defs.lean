/-! What both programs are about: shapes as rows of eleven numbers, worths, bounds, places; and what stays true between calls -/
def zONE : Int := 16003008000
/-- how many numbers a kind has -/
def zno (k : Int) : Int := if k = 3 ∨ k = 5 then 4 else if k = 4 then 6 else if k = 12 then 3 else if k < 11 then 0 else 2
/-- whether number i of a kind may be v, behind f -/
def zmay (k i v f : Int) : Prop :=
  if k = 3 then (if i = 3 then 0 ≤ v ∧ v ≤ 40 else -40 ≤ v ∧ v ≤ 55)
  else if k = 4 then (if i < 3 then -40 ≤ v ∧ v ≤ 55 else f ≤ v ∧ v ≤ 55)
  else if k = 5 then (if i = 3 then -999 ≤ v ∧ v ≤ 999 else -9 ≤ v ∧ v ≤ 9)
  else if k = 11 then (if i = 0 then 1 ≤ v ∧ v ≤ 9 else 0 ≤ v ∧ v ≤ f)
  else if k = 12 then -40 ≤ v ∧ v ≤ 55
  else if k = 13 then (if i = 0 then 0 ≤ v ∧ v ≤ 2 else 1 ≤ v ∧ v ≤ 16)
  else if k = 14 then (if i = 0 then 0 ≤ v ∧ v ≤ 2 else 0 ≤ v ∧ v ≤ 15)
  else if k = 15 then (0 ≤ v ∧ v ≤ 2) ∧ (i = 0 ∨ v ≠ f)
  else (if i = 1 then 1 ≤ v ∧ v ≤ 9 else (if k = 16 then -99 else 0) ≤ v ∧ v ≤ 99)
def zahead (k i : Int) (N : Int → Int) : Int := if k = 4 ∧ 3 ≤ i then N (i - 3) else N 0
def zNV (k : Int) (N : Int → Int) : Prop := ∀ i : Int, 0 ≤ i → i < zno k → zmay k i (N i) (zahead k i N)
def zWS (T : Int → Int) (s : Int) : Prop :=
  ((3 ≤ T (11 * s) ∧ T (11 * s) ≤ 5 ∧ T (11 * s + 1) = -1 ∧ T (11 * s + 2) = -1 ∧ T (11 * s + 3) = 0 ∧ T (11 * s + 4) = 0)
  ∨ (8 ≤ T (11 * s) ∧ T (11 * s) ≤ 11 ∧ 0 ≤ T (11 * s + 1) ∧ T (11 * s + 1) < s ∧ 0 ≤ T (11 * s + 2) ∧ T (11 * s + 2) < s
      ∧ T (11 * s + 3) = 1 + max (T (11 * T (11 * s + 1) + 3)) (T (11 * T (11 * s + 2) + 3)) ∧ T (11 * s + 4) = max (T (11 * T (11 * s + 1) + 4)) (T (11 * T (11 * s + 2) + 4)) + (if T (11 * s) = 11 then 1 else 0))
  ∨ (12 ≤ T (11 * s) ∧ T (11 * s) ≤ 17 ∧ 0 ≤ T (11 * s + 1) ∧ T (11 * s + 1) < s ∧ T (11 * s + 2) = -1
      ∧ T (11 * s + 3) = 1 + T (11 * T (11 * s + 1) + 3) ∧ T (11 * s + 4) = T (11 * T (11 * s + 1) + 4)))
  ∧ 0 ≤ T (11 * s + 3) ∧ T (11 * s + 3) ≤ 6 ∧ 0 ≤ T (11 * s + 4) ∧ T (11 * s + 4) ≤ 2 ∧ zNV (T (11 * s)) (fun i => T (11 * s + 5 + i))
/-- a table of shapes -/
def zWF (T : Int → Int) (n : Int) : Prop := 0 ≤ n ∧ n ≤ 24 ∧ ∀ s : Int, 0 ≤ s → s < n → zWS T s
def zsolN (T : Int → Int) : Nat → Int → Int
  | 0, _ => 0
  | n + 1, s => if T (11 * s) ≤ 5 then 1 else zsolN T n (T (11 * s + 1)) + (if T (11 * s + 2) < 0 then 0 else zsolN T n (T (11 * s + 2)))
def zpick (a x y z : Int) : Int := if a = 0 then x else if a = 1 then y else z
/-- the point that a change of kind k with numbers a, b, c asks its shape about -/
def zmv (k a b c x y z : Int) : Int × Int × Int :=
  if k = 12 then (x - a, y - b, z - c)
  else if k = 13 then (if a = 0 then x % b else x, if a = 1 then y % b else y, if a = 2 then z % b else z)
  else if k = 14 then (if a = 0 ∧ b < x then 2 * b - x else x, if a = 1 ∧ b < y then 2 * b - y else y, if a = 2 ∧ b < z then 2 * b - z else z)
  else if k = 15 then (if a = 0 then zpick b x y z else if b = 0 then zpick a x y z else x, if a = 1 then zpick b x y z else if b = 1 then zpick a x y z else y, if a = 2 then zpick b x y z else if b = 2 then zpick a x y z else z)
  else (x, y, z)
/-- the worth of a solid, whole -/
def zsd (k : Int) (N : Int → Int) (x y z : Int) : Int :=
  if k = 3 then (x - N 0) * (x - N 0) + (y - N 1) * (y - N 1) + (z - N 2) * (z - N 2) - N 3 * N 3
  else if k = 4 then max (max (max (N 0 - x) (x - N 3)) (max (N 1 - y) (y - N 4))) (max (N 2 - z) (z - N 5))
  else N 0 * x + N 1 * y + N 2 * z - N 3
/-- .. of a pair, out of its parts' -/
def zpr (k n t a b : Int) : Int := if k = 8 then min a b else if k = 9 then max a b else if k = 10 then max a (-b) else (a * (n - t) + b * t) / n
/-- .. of a change, out of its part's -/
def zch (k g h a : Int) : Int := if k = 16 then a - zONE / h * g else if k = 17 then max a (-a) - zONE / h * g else a
def zwd (T : Int → Int) : Nat → Int → Int → Int → Int → Int
  | 0, _, _, _, _ => 0
  | n + 1, s, x, y, z =>
    if T (11 * s) ≤ 5 then zsd (T (11 * s)) (fun i => T (11 * s + 5 + i)) x y z * zONE
    else if T (11 * s) ≤ 11 then zpr (T (11 * s)) (T (11 * s + 5)) (T (11 * s + 6)) (zwd T n (T (11 * s + 1)) x y z) (zwd T n (T (11 * s + 2)) x y z)
    else zch (T (11 * s)) (T (11 * s + 5)) (T (11 * s + 6)) (zwd T n (T (11 * s + 1)) (zmv (T (11 * s)) (T (11 * s + 5)) (T (11 * s + 6)) (T (11 * s + 7)) x y z).1 (zmv (T (11 * s)) (T (11 * s + 5)) (T (11 * s + 6)) (T (11 * s + 7)) x y z).2.1 (zmv (T (11 * s)) (T (11 * s + 5)) (T (11 * s + 6)) (T (11 * s + 7)) x y z).2.2)
def zns (T : Int → Int) (s p : Int) : Bool := decide (zwd T 7 s (p / 256) (p / 16 % 16) (p % 16) ≤ 0)
/-- bounds over a region: from and to on each axis -/
abbrev zrg : Type := (Int × Int) × (Int × Int) × (Int × Int)
def zls (a b : Int) : Int := if a ≤ 0 ∧ 0 ≤ b then 0 else min (a * a) (b * b)
def zrpt (m : Int) (v : Int × Int) : Int × Int := if v.1 % m ≤ v.2 % m ∧ v.2 - v.1 < m then (v.1 % m, v.2 % m) else (0, m - 1)
def zmir (c : Int) (v : Int × Int) : Int × Int := if v.2 ≤ c then v else if c < v.1 then (2 * c - v.2, 2 * c - v.1) else (min v.1 (2 * c - v.2), c)
def zpk (a : Int) (r : zrg) : Int × Int := if a = 0 then r.1 else if a = 1 then r.2.1 else r.2.2
def zmvr (k a b c : Int) (r : zrg) : zrg :=
  if k = 12 then ((r.1.1 - a, r.1.2 - a), (r.2.1.1 - b, r.2.1.2 - b), (r.2.2.1 - c, r.2.2.2 - c))
  else if k = 13 then (if a = 0 then zrpt b r.1 else r.1, if a = 1 then zrpt b r.2.1 else r.2.1, if a = 2 then zrpt b r.2.2 else r.2.2)
  else if k = 14 then (if a = 0 then zmir b r.1 else r.1, if a = 1 then zmir b r.2.1 else r.2.1, if a = 2 then zmir b r.2.2 else r.2.2)
  else if k = 15 then (if a = 0 then zpk b r else if b = 0 then zpk a r else r.1, if a = 1 then zpk b r else if b = 1 then zpk a r else r.2.1, if a = 2 then zpk b r else if b = 2 then zpk a r else r.2.2)
  else r
def zsb (k : Int) (N : Int → Int) (r : zrg) : Int × Int :=
  if k = 3 then (zls (r.1.1 - N 0) (r.1.2 - N 0) + zls (r.2.1.1 - N 1) (r.2.1.2 - N 1) + zls (r.2.2.1 - N 2) (r.2.2.2 - N 2) - N 3 * N 3,
      max ((r.1.1 - N 0) * (r.1.1 - N 0)) ((r.1.2 - N 0) * (r.1.2 - N 0)) + max ((r.2.1.1 - N 1) * (r.2.1.1 - N 1)) ((r.2.1.2 - N 1) * (r.2.1.2 - N 1)) + max ((r.2.2.1 - N 2) * (r.2.2.1 - N 2)) ((r.2.2.2 - N 2) * (r.2.2.2 - N 2)) - N 3 * N 3)
  else if k = 4 then (max (max (max (N 0 - r.1.2) (r.1.1 - N 3)) (max (N 1 - r.2.1.2) (r.2.1.1 - N 4))) (max (N 2 - r.2.2.2) (r.2.2.1 - N 5)),
      max (max (max (N 0 - r.1.1) (r.1.2 - N 3)) (max (N 1 - r.2.1.1) (r.2.1.2 - N 4))) (max (N 2 - r.2.2.1) (r.2.2.2 - N 5)))
  else (min (N 0 * r.1.1) (N 0 * r.1.2) + min (N 1 * r.2.1.1) (N 1 * r.2.1.2) + min (N 2 * r.2.2.1) (N 2 * r.2.2.2) - N 3,
      max (N 0 * r.1.1) (N 0 * r.1.2) + max (N 1 * r.2.1.1) (N 1 * r.2.1.2) + max (N 2 * r.2.2.1) (N 2 * r.2.2.2) - N 3)
def zpb (k n t : Int) (a b : Int × Int) : Int × Int := if k = 10 then (max a.1 (-b.2), max a.2 (-b.1)) else (zpr k n t a.1 b.1, zpr k n t a.2 b.2)
def zcb (k g h : Int) (a : Int × Int) : Int × Int :=
  if k = 16 then (a.1 - zONE / h * g, a.2 - zONE / h * g)
  else if k = 17 then ((if a.1 ≤ 0 ∧ 0 ≤ a.2 then 0 else min (max a.1 (-a.1)) (max a.2 (-a.2))) - zONE / h * g, max (max a.1 (-a.1)) (max a.2 (-a.2)) - zONE / h * g)
  else a
def zbd (T : Int → Int) : Nat → Int → zrg → Int × Int
  | 0, _, _ => (0, 0)
  | n + 1, s, r =>
    if T (11 * s) ≤ 5 then ((zsb (T (11 * s)) (fun i => T (11 * s + 5 + i)) r).1 * zONE, (zsb (T (11 * s)) (fun i => T (11 * s + 5 + i)) r).2 * zONE)
    else if T (11 * s) ≤ 11 then zpb (T (11 * s)) (T (11 * s + 5)) (T (11 * s + 6)) (zbd T n (T (11 * s + 1)) r) (zbd T n (T (11 * s + 2)) r)
    else zcb (T (11 * s)) (T (11 * s + 5)) (T (11 * s + 6)) (zbd T n (T (11 * s + 1)) (zmvr (T (11 * s)) (T (11 * s + 5)) (T (11 * s + 6)) (T (11 * s + 7)) r))
def zcube (x y z m : Int) : zrg := ((x, x + m - 1), (y, y + m - 1), (z, z + m - 1))
/-- how many cubes are looked at, from one with side 2^n on -/
def zlkN (T : Int → Int) (s : Int) : Nat → Int → Int → Int → Int
  | 0, _, _, _ => 1
  | n + 1, x, y, z =>
    if 0 < (zbd T 7 s (zcube x y z (2 ^ (n + 1)))).2 ∧ (zbd T 7 s (zcube x y z (2 ^ (n + 1)))).1 ≤ 0 then
      1 + zlkN T s n x y z + zlkN T s n x y (z + 2 ^ n) + zlkN T s n x (y + 2 ^ n) z + zlkN T s n x (y + 2 ^ n) (z + 2 ^ n)
        + zlkN T s n (x + 2 ^ n) y z + zlkN T s n (x + 2 ^ n) y (z + 2 ^ n) + zlkN T s n (x + 2 ^ n) (y + 2 ^ n) z + zlkN T s n (x + 2 ^ n) (y + 2 ^ n) (z + 2 ^ n)
    else 1
/-- a bit of the class' places: their words lie in object o -/
def zbit (σ : zMem) (o p : Int) : Bool := (zu64 (σ o (p / 64))).testBit (p % 64).toNat
/-- .. are what f says -/
def zPS (σ : zMem) (o : Int) (f : Int → Bool) : Prop := ∀ p : Int, 0 ≤ p → p < 4096 → zbit σ o p = f p
def zbo (x : Int) : Bool := decide (x ≠ 0)
/-- the class' table, object o, against rows -/
def zTb (o : Int) (σ : zMem) (T : Int → Int) (n : Int) : Prop := σ o 7 = n ∧ ∀ s : Int, 0 ≤ s → s < n →
  σ (o + 1) s = T (11 * s) ∧ σ (o + 2) s = T (11 * s + 1) ∧ σ (o + 3) s = T (11 * s + 2) ∧ σ (o + 4) s = T (11 * s + 3) ∧ σ (o + 5) s = T (11 * s + 4)
  ∧ σ (o + 6) s = zsolN T 7 s ∧ ∀ k : Int, 0 ≤ k → k < zno (T (11 * s)) → σ (o + 7) (6 * s + k) = T (11 * s + 5 + k)
/-- what was found and kept -/
def zCa (σ : zMem) (T : Int → Int) (n : Int) : Prop := ∀ i : Int, 0 ≤ i → i < n → σ 87 i = 0 ∨ (σ 87 i = zlkN T i 4 0 0 0 ∧ zPS σ (122 + 2 * i) (zns T i))
/-- the class' block, object o, against places, carvings and numbers -/
def zBl (o : Int) (σ : zMem) (b : Int → Int) (c : Int → Int → Int) (nc na sd : Int) : Prop :=
  σ o 3 = nc ∧ σ o 4 = na ∧ σ o 5 = sd ∧ 0 ≤ σ o 2 ∧ σ o 2 < 12 ∧ 0 ≤ nc ∧ nc ≤ 12 ∧ zPS σ (o + 2) (fun p => zbo (b p))
  ∧ (∀ p : Int, 0 ≤ p → p < 4096 → 0 ≤ b p ∧ b p ≤ 1)
  ∧ ∀ i : Int, 0 ≤ i → i < nc → zPS σ (o + 5 + 2 * ((σ o 2 - nc + i) % 12)) (fun p => zbo (c i p)) ∧ ∀ p : Int, 0 ≤ p → p < 4096 → 0 ≤ c i p ∧ c i p ≤ 1
/-- the reference's carvings lie in objects 231 to 242, each in its own -/
def zPm (σ : zMem) : Prop := ∀ i : Int, 0 ≤ i → i < 12 → (231 ≤ σ 230 i ∧ σ 230 i ≤ 242) ∧ ∀ j : Int, 0 ≤ j → j < 12 → σ 230 i = σ 230 j → i = j
def zI_T (σ : zMem) : Prop := zWF (σ 210) (σ 209 1) ∧ zTb 2 σ (σ 210) (σ 209 1)
def zI_K (σ : zMem) : Prop := (σ 209 31 = 0 ∨ σ 209 31 = 1) ∧ σ 1 14 = σ 209 31 ∧ 0 ≤ σ 1 15 ∧ σ 1 15 ≤ σ 209 1 ∧ (σ 209 31 = 0 → σ 1 15 = 0)
  ∧ (σ 209 31 = 1 → zWF (σ 243) (σ 258 0) ∧ zTb 10 σ (σ 243) (σ 258 0) ∧ σ 1 15 ≤ σ 258 0 ∧ (∀ k : Int, 0 ≤ k → k < 11 * σ 1 15 → σ 243 k = σ 210 k)
    ∧ zBl 46 σ (σ 244) (fun i => σ (246 + i)) (σ 258 1) (σ 258 2) (σ 258 3))
def zI_B (σ : zMem) : Prop := zBl 18 σ (σ 229) (fun i => σ (σ 230 i)) (σ 209 24) (σ 209 25) (σ 209 26) ∧ zPm σ
def zI_S (σ : zMem) : Prop := ∀ s : Int, 0 ≤ s → s < 8 → σ 75 s = σ 226 s ∧ ((σ 226 s = -1 ∧ σ 76 s = 0) ∨ (0 ≤ σ 226 s ∧ σ 226 s ≤ 4 ∧ σ 76 s = σ 227 s ∧ 0 ≤ σ 227 s ∧ σ 227 s ≤ 40) ∨ (10 ≤ σ 226 s ∧ σ 226 s < 10 + σ 209 1 ∧ σ 76 s = 0))
  ∧ ∀ i : Int, 0 ≤ i → i < 40 → σ 77 (40 * s + i) = σ 228 (40 * s + i)
def zI_R (σ : zMem) : Prop := ∀ i : Int, 0 ≤ i → i < 5 → σ 208 i = σ 211 i
def zI_P (σ : zMem) : Prop := σ 78 1 = σ 209 11 ∧ 0 ≤ σ 209 11 ∧ σ 209 11 ≤ 250 ∧ ∀ i : Int, 0 ≤ i → i < σ 209 11 → σ 79 i = σ 223 i ∧ 0 ≤ σ 223 i ∧ σ 223 i ≤ 255
/-- what stays true between calls -/
def zInv (σ : zMem) : Prop := σ 0 0 = 259 ∧ zI_T σ ∧ zCa σ (σ 210) (σ 209 1) ∧ zI_K σ ∧ zI_B σ ∧ zI_S σ ∧ zI_R σ ∧ zI_P σ
theorem zlog_0 {l : List (Int × Int × Int)} {c a k : Int} (ha : a ≠ 0) (h : ∀ e ∈ l, ¬ (e.1 = a ∧ e.2.1 = k)) : zlf (c, l) a k = 0 := by
  show zlrd (c, l) a k = 0
  rw [zlrd_n (fun q => ha q.1)]
  show zlgv l a k = 0
  induction l with
  | nil => rfl
  | cons e l ih =>
    obtain ⟨x, y, v⟩ := e
    have h1 : ¬ (x = a ∧ y = k) := h (x, y, v) (List.mem_cons_self ..)
    rw [zlgv, if_neg (fun q => h1 ⟨q.1.symm, q.2.symm⟩)]
    exact ih fun e he => h e (List.mem_cons_of_mem _ he)
theorem zlog_o {l : List (Int × Int × Int)} {c a : Int} (ha : a ≠ 0) (h : (l.all fun e => decide (e.1 ≠ a)) = true) (k : Int) : zlf (c, l) a k = 0 :=
  zlog_0 ha fun e he q => by
    have := List.all_eq_true.mp h e he
    simp at this
    exact this q.1
theorem zlog_n {a k : Int} {v : Int} (h0 : ¬ (a = 0 ∧ k = 0)) (h : zlgv zlgB a k = v) : zlf (259, zlgB) a k = v := by
  show zlrd (259, zlgB) a k = v
  rw [zlrd_n h0]
  exact h
theorem zbit_0 {σ : zMem} {o p : Int} (h : σ o (p / 64) = 0) : zbit σ o p = false := by
  rw [zbit, h]
  simp [zu64]
theorem zInv_0 : zInv (zlf (259, zlgB)) := by
  have e229 : ∀ k, zlf (259, zlgB) 229 k = 0 := zlog_o (by decide) (by decide +kernel)
  have e20 : ∀ k, zlf (259, zlgB) 20 k = 0 := zlog_o (by decide) (by decide +kernel)
  have e77 : ∀ k, zlf (259, zlgB) 77 k = 0 := zlog_o (by decide) (by decide +kernel)
  have e228 : ∀ k, zlf (259, zlgB) 228 k = 0 := zlog_o (by decide) (by decide +kernel)
  have e76 : ∀ k, zlf (259, zlgB) 76 k = 0 := zlog_o (by decide) (by decide +kernel)
  have e208 : ∀ k, zlf (259, zlgB) 208 k = 0 := zlog_o (by decide) (by decide +kernel)
  have e211 : ∀ k, zlf (259, zlgB) 211 k = 0 := zlog_o (by decide) (by decide +kernel)
  have n1 : zlf (259, zlgB) 209 1 = 0 := zlog_n (by decide) (by decide +kernel)
  have n2 : zlf (259, zlgB) 2 7 = 0 := zlog_n (by decide) (by decide +kernel)
  have n3 : zlf (259, zlgB) 209 31 = 0 := zlog_n (by decide) (by decide +kernel)
  have n4 : zlf (259, zlgB) 1 14 = 0 := zlog_n (by decide) (by decide +kernel)
  have n5 : zlf (259, zlgB) 1 15 = 0 := zlog_n (by decide) (by decide +kernel)
  have n6 : zlf (259, zlgB) 209 24 = 0 := zlog_n (by decide) (by decide +kernel)
  have n7 : zlf (259, zlgB) 209 25 = 0 := zlog_n (by decide) (by decide +kernel)
  have n8 : zlf (259, zlgB) 209 26 = 1 := zlog_n (by decide) (by decide +kernel)
  have m2 : zlf (259, zlgB) 18 2 = 0 := zlog_n (by decide) (by decide +kernel)
  have m3 : zlf (259, zlgB) 18 3 = 0 := zlog_n (by decide) (by decide +kernel)
  have m4 : zlf (259, zlgB) 18 4 = 0 := zlog_n (by decide) (by decide +kernel)
  have m5 : zlf (259, zlgB) 18 5 = 1 := zlog_n (by decide) (by decide +kernel)
  have m6 : zlf (259, zlgB) 78 1 = 0 := zlog_n (by decide) (by decide +kernel)
  have m7 : zlf (259, zlgB) 209 11 = 0 := zlog_n (by decide) (by decide +kernel)
  have hp : ∀ i : Int, 0 ≤ i → i < 12 → zlf (259, zlgB) 230 i = 231 + i := by
    intro i h1 h2
    have : i = 0 ∨ i = 1 ∨ i = 2 ∨ i = 3 ∨ i = 4 ∨ i = 5 ∨ i = 6 ∨ i = 7 ∨ i = 8 ∨ i = 9 ∨ i = 10 ∨ i = 11 := by omega
    rcases this with rfl | rfl | rfl | rfl | rfl | rfl | rfl | rfl | rfl | rfl | rfl | rfl <;> exact zlog_n (by decide) (by decide +kernel)
  have hs : ∀ i : Int, 0 ≤ i → i < 8 → zlf (259, zlgB) 75 i = -1 ∧ zlf (259, zlgB) 226 i = -1 := by
    intro i h1 h2
    have : i = 0 ∨ i = 1 ∨ i = 2 ∨ i = 3 ∨ i = 4 ∨ i = 5 ∨ i = 6 ∨ i = 7 := by omega
    rcases this with rfl | rfl | rfl | rfl | rfl | rfl | rfl | rfl <;> exact ⟨zlog_n (by decide) (by decide +kernel), zlog_n (by decide) (by decide +kernel)⟩
  refine ⟨zlrd_0 _, ⟨⟨by omega, by omega, fun s a b => by omega⟩, by omega, fun s a b => by omega⟩, fun s a b => by omega,
    ⟨Or.inl n3, by omega, by omega, by omega, fun _ => n5, fun q => by omega⟩, ⟨⟨by omega, by omega, by omega, by omega, by omega, by omega, by omega, ?_, ?_, fun i a b => by omega⟩, ?_⟩, ?_, ?_, by omega, by omega, by omega, fun i a b => by omega⟩
  · intro p a b
    show zbit _ 20 p = zbo (zlf (259, zlgB) 229 p)
    rw [zbit_0 (e20 _), e229]
    rfl
  · intro p a b
    rw [e229]
    decide
  · intro i a b
    rw [hp i a b]
    refine ⟨by omega, fun j c d e => ?_⟩
    rw [hp j c d] at e
    omega
  · intro s a b
    refine ⟨(hs s a b).1.trans (hs s a b).2.symm, Or.inl ⟨(hs s a b).2, e76 s⟩, fun i c d => (e77 _).trans (e228 _).symm⟩
  · intro i a b
    rw [e208, e211]
