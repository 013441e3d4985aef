section
/-! Call 9, shape: numbers -/
/-- whether a minus may stand before a number -/
abbrev qmi (k i : Int) : Prop := (k = 3 ∧ i < 3) ∨ k = 4 ∨ k = 5 ∨ k = 12 ∨ (k = 16 ∧ i = 0)
theorem s_33 (w : zW) (d : Nat) {k : Int} (i : Int) (hk : (3 ≤ k ∧ k ≤ 5) ∨ (11 ≤ k ∧ k ≤ 17)) (σ : zMem) : zcall w d 33 [zI k, zI i] σ = some (zt (qmi k i), σ) := by
  have : k = 3 ∨ k = 4 ∨ k = 5 ∨ k = 11 ∨ k = 12 ∨ k = 13 ∨ k = 14 ∨ k = 15 ∨ k = 16 ∨ k = 17 := by omega
  rw [eX2_mayHaveMinus]
  by_cases c : qmi k i
  · rw [zt_p c]; unfold qmi at c
    rcases this with rfl | rfl | rfl | rfl | rfl | rfl | rfl | rfl | rfl | rfl <;> simp only [reduceIte, Int.reduceEq] <;> (repeat' split) <;> first | rfl | (exfalso; omega)
  · rw [zt_n c]; unfold qmi at c
    rcases this with rfl | rfl | rfl | rfl | rfl | rfl | rfl | rfl | rfl | rfl <;> simp only [reduceIte, Int.reduceEq] <;> (repeat' split) <;> first | rfl | (exfalso; omega)
theorem s_302 (w : zW) (d : Nat) {k : Int} (i : Int) (hk : (3 ≤ k ∧ k ≤ 5) ∨ (11 ≤ k ∧ k ≤ 17)) (σ : zMem) : zcall w d 302 [zI k, zI i] σ = some (zt (qmi k i), σ) := by
  have : k = 3 ∨ k = 4 ∨ k = 5 ∨ k = 11 ∨ k = 12 ∨ k = 13 ∨ k = 14 ∨ k = 15 ∨ k = 16 ∨ k = 17 := by omega
  rw [eX12_isBelow]
  by_cases c : qmi k i
  · rw [zt_p c]; unfold qmi at c
    rcases this with rfl | rfl | rfl | rfl | rfl | rfl | rfl | rfl | rfl | rfl <;> simp only [reduceIte, Int.reduceEq] <;> (repeat' split) <;> first | rfl | (exfalso; omega)
  · rw [zt_n c]; unfold qmi at c
    rcases this with rfl | rfl | rfl | rfl | rfl | rfl | rfl | rfl | rfl | rfl <;> simp only [reduceIte, Int.reduceEq] <;> (repeat' split) <;> first | rfl | (exfalso; omega)
/-- the first number isn't looked at by another -/
theorem zmay_00 {k v f f' : Int} (hk : (3 ≤ k ∧ k ≤ 5) ∨ (11 ≤ k ∧ k ≤ 17)) (h : zmay k 0 v f) : zmay k 0 v f' := by
  have : k = 3 ∨ k = 4 ∨ k = 5 ∨ k = 11 ∨ k = 12 ∨ k = 13 ∨ k = 14 ∨ k = 15 ∨ k = 16 ∨ k = 17 := by omega
  rcases this with rfl | rfl | rfl | rfl | rfl | rfl | rfl | rfl | rfl | rfl <;> exact (by simpa [zmay] using h)
theorem zahead_u {k i v : Int} {N N' : Int → Int} (h0 : 0 < i) (h : ∀ j, j ≠ i → N' j = N j) : zahead k i N' = zahead k i N := by
  unfold zahead
  split
  · exact h _ (by omega)
  · exact h _ (by omega)
/-- whether it is below nought; where its figures begin and end; what it is -/
abbrev qng (n : Int) (B : Int → Int) (k i a : Int) : Prop := B (ysk n B a) = 45 ∧ qmi k i
def qno1 (n : Int) (B : Int → Int) (k i a : Int) : Int := if qng n B k i a then ysk n B (ysk n B a + 1) else ysk n B a
def qno2 (n : Int) (B : Int → Int) (k i a : Int) : Int := ysc pdg n B (qno1 n B k i a)
def qnov (n : Int) (B : Int → Int) (k i a : Int) : Int := if qng n B k i a then -(ydgv B (qno1 n B k i a) (qno2 n B k i a - qno1 n B k i a).toNat) else ydgv B (qno1 n B k i a) (qno2 n B k i a - qno1 n B k i a).toNat
def qnok (n : Int) (B : Int → Int) (k i a f : Int) : Prop := qno1 n B k i a < qno2 n B k i a ∧ qno2 n B k i a - qno1 n B k i a ≤ 3 ∧ zmay k i (qnov n B k i a) f
theorem l_79 (w : zW) {d : Nat} (hd : 2 ≤ d) {n c k i x3 f : Int} {B : Int → Int} (hB : ytB n B) (h0 : 0 ≤ c) (hk : (3 ≤ k ∧ k ≤ 5) ∨ (11 ≤ k ∧ k ≤ 17)) (hi : 0 ≤ i) (hiz : i < zno k) (h3 : x3 = 0 ∨ x3 = 1) {V : Int} (hV : V = (if x3 = 0 then ydgv B c (ysc pdg n B c - c).toNat else -(ydgv B c (ysc pdg n B c - c).toNat))) :
    ∀ (m : Nat) (j v : Int) (σ : zMem), (n - j).toNat = m → c ≤ j → j ≤ n → (∀ i : Int, c ≤ i → i < j → 48 ≤ B i ∧ B i ≤ 57) → ysc pdg n B j = ysc pdg n B c → (j - c ≤ 3 → v = ydgv B c (j - c).toNat) → ytC σ n B → σ 78 2 = j → zahead k i (σ 84) = f → (k = 4 → 3 ≤ i → -40 ≤ σ 84 (i - 3)) →
    ((c < ysc pdg n B c ∧ ysc pdg n B c - c ≤ 3 ∧ zmay k i V f) ∧ zden w (d + 1) 79 33 [zA 7 11 78, zI k, zI i, zI x3, zI c, zI v, zI j] [] σ = some (1, zup (zup σ 78 2 (ysc pdg n B c)) 84 i V))
    ∨ (¬ (c < ysc pdg n B c ∧ ysc pdg n B c - c ≤ 3 ∧ zmay k i V f) ∧ ∃ σ', zden w (d + 1) 79 33 [zA 7 11 78, zI k, zI i, zI x3, zI c, zI v, zI j] [] σ = some (0, σ') ∧ σ' 78 3 = c ∧ ∀ a t, a ≠ 84 → (a ≠ 78 ∨ (t ≠ 2 ∧ t ≠ 3)) → σ' a t = σ a t) := by
  have hn := hB.2.1
  have hz6 := zno_b6 k
  have stop : ∀ (j v : Int) (σ : zMem), c ≤ j → j ≤ n → (∀ i : Int, c ≤ i → i < j → 48 ≤ B i ∧ B i ≤ 57) → ysc pdg n B c = j → (j - c ≤ 3 → v = ydgv B c (j - c).toNat) → σ 78 2 = j → zahead k i (σ 84) = f → (k = 4 → 3 ≤ i → -40 ≤ σ 84 (i - 3)) →
      ∀ X : Option (Int × zMem), X = (if (σ 78 2) = c then (zcall w d 73 [zA 7 11 78, zI c] σ).bind (fun r3 => if 0 ≤ r3.1 ∧ r3.1 ≤ 1 then some (r3.1, r3.2) else none) else if 3 < (zar 1 (σ 78 2) c) then (zcall w d 73 [zA 7 11 78, zI c] σ).bind (fun r4 => if 0 ≤ r4.1 ∧ r4.1 ≤ 1 then some (r4.1, r4.2) else none) else if i < 0 then (zcall w d 73 [zA 7 11 78, zI c] σ).bind (fun r5 => if 0 ≤ r5.1 ∧ r5.1 ≤ 1 then some (r5.1, r5.2) else none) else if i < 6 then if x3 = 0 then if (0 : Int) ≤ i ∧ i < 6 then (zcall w d 31 [zI k, zI i, zA 20 6 84] (zup σ 84 i v)).bind (fun r6 => if r6.1 = 0 then (zcall w d 73 [zA 7 11 78, zI c] r6.2).bind fun r7 => if r7.1 = 0 then some (0, r7.2) else some (1, r7.2) else some (1, r6.2)) else none else if (0 : Int) ≤ i ∧ i < 6 then (zcall w d 31 [zI k, zI i, zA 20 6 84] (zup σ 84 i (zar 5 v 0))).bind (fun r8 => if r8.1 = 0 then (zcall w d 73 [zA 7 11 78, zI c] r8.2).bind fun r9 => if r9.1 = 0 then some (0, r9.2) else some (1, r9.2) else some (1, r8.2)) else none else (zcall w d 73 [zA 7 11 78, zI c] σ).bind (fun r10 => if 0 ≤ r10.1 ∧ r10.1 ≤ 1 then some (r10.1, r10.2) else none)) →
      ((c < ysc pdg n B c ∧ ysc pdg n B c - c ≤ 3 ∧ zmay k i V f) ∧ X = some (1, zup (zup σ 78 2 (ysc pdg n B c)) 84 i V))
      ∨ (¬ (c < ysc pdg n B c ∧ ysc pdg n B c - c ≤ 3 ∧ zmay k i V f) ∧ ∃ σ', X = some (0, σ') ∧ σ' 78 3 = c ∧ ∀ a t, a ≠ 84 → (a ≠ 78 ∨ (t ≠ 2 ∧ t ≠ 3)) → σ' a t = σ a t) := by
    intro j v σ hj hjn hdg ej hv e2 ef hx X hX
    rw [ej] at hV ⊢
    have e1 : zar 1 j c = j - c := by rw [za_1, zw32_i (by omega)]
    simp only [e2, e1, eX6_isFault, Option.bind_some] at hX
    have flt : X = some (0, zup σ 78 3 c) → ¬ (c < j ∧ j - c ≤ 3 ∧ zmay k i V f) → ((c < j ∧ j - c ≤ 3 ∧ zmay k i V f) ∧ X = some (1, zup (zup σ 78 2 j) 84 i V)) ∨ (¬ (c < j ∧ j - c ≤ 3 ∧ zmay k i V f) ∧ ∃ σ', X = some (0, σ') ∧ σ' 78 3 = c ∧ ∀ a t, a ≠ 84 → (a ≠ 78 ∨ (t ≠ 2 ∧ t ≠ 3)) → σ' a t = σ a t) := fun u q => Or.inr ⟨q, _, u, zup_t ⟨rfl, rfl, by decide⟩, fun a t x y => zup_f (by omega)⟩
    by_cases c1 : j = c
    · rw [if_pos c1] at hX
      exact flt hX (fun u => by omega)
    · rw [if_neg c1] at hX
      by_cases c2 : 3 < j - c
      · rw [if_pos c2] at hX
        exact flt hX (fun u => by omega)
      · rw [if_neg c2, if_neg (by omega), if_pos (by omega)] at hX
        have hv' := hv (by omega)
        have bd := ydgv_3 (B := B) (b := c) (j := (j - c).toNat) (by omega) (fun i x y => hdg i x (by omega))
        have core : ∀ v' : Int, v' = V → X = (zcall w d 31 [zI k, zI i, zA 20 6 84] (zup σ 84 i v')).bind (fun r6 => if r6.1 = 0 then some (0, zup r6.2 78 3 c) else some (1, r6.2)) → ((c < j ∧ j - c ≤ 3 ∧ zmay k i V f) ∧ X = some (1, zup (zup σ 78 2 j) 84 i V)) ∨ (¬ (c < j ∧ j - c ≤ 3 ∧ zmay k i V f) ∧ ∃ σ', X = some (0, σ') ∧ σ' 78 3 = c ∧ ∀ a t, a ≠ 84 → (a ≠ 78 ∨ (t ≠ 2 ∧ t ≠ 3)) → σ' a t = σ a t) := by
          intro v' hv2 hX
          rw [hv2] at hX
          have g : zup σ 84 i V 84 i = V := zup_t ⟨rfl, rfl, by decide⟩
          have gm : zmay k i V (zahead k i (zup σ 84 i V 84)) ↔ zmay k i V f := by
            by_cases i0 : i = 0
            · subst i0; exact ⟨zmay_00 hk, zmay_00 hk⟩
            · rw [zahead_u (v := V) (N := σ 84) (by omega) (fun t u => zup_f (Or.inr u)), ef]
          rw [s_31 w hd 84 hk hi hiz _ (fun u1 u2 => by rw [zup_f (by omega)]; exact hx u1 u2), g, Option.bind_some] at hX
          dsimp only at hX
          by_cases c4 : zmay k i V f
          · rw [ytm_p (gm.2 c4), if_neg (by decide)] at hX
            exact Or.inl ⟨⟨by omega, by omega, c4⟩, by rw [zup_v e2]; exact hX⟩
          · rw [ytm_n (fun u => c4 (gm.1 u)), if_pos rfl] at hX
            exact Or.inr ⟨fun u => c4 u.2.2, _, hX, zup_t ⟨rfl, rfl, by decide⟩, fun a t x y => by rw [zup_f (by omega), zup_f (by omega)]⟩
        rcases h3 with rfl | rfl
        · rw [if_pos rfl, if_pos (by omega)] at hX
          rw [if_pos rfl] at hV
          exact core v (hv'.trans hV.symm) hX
        · rw [if_neg (by decide), if_pos (by omega)] at hX
          rw [if_neg (by decide)] at hV
          exact core _ (by rw [za_5, zw32_i (by omega), hV, hv']) hX
  intro m
  induction m with
  | zero =>
    intro j v σ h hj hjn hdg ej hv t e2 ef hx
    have ee : ysc pdg n B j = j := ysc_f (fun u => by have := ysc_lt hB pdg_0 u; omega)
    refine stop j v σ hj hjn hdg (ej.symm.trans ee) hv e2 ef hx _ ?_
    rw [hX6_readNumber_33, t.1, if_neg (by omega)]
  | succ m ih =>
    intro j v σ h hj hjn hdg ej hv t e2 ef hx
    by_cases cd : 48 ≤ B j ∧ B j ≤ 57
    · have ez : zar 0 j 1 = j + 1 := by rw [za_0, zw32_i (by omega)]
      have key : zden w (d + 1) 79 33 [zA 7 11 78, zI k, zI i, zI x3, zI c, zI v, zI j] [] σ = zden w (d + 1) 79 33 [zA 7 11 78, zI k, zI i, zI x3, zI c, zI (zar 1 (zar 0 (zar 2 v 10) (B j)) 48), zI (j + 1)] [] (zup σ 78 2 (j + 1)) := by
        rw [hX6_readNumber_33, t.1, if_pos (by omega), s_74 w d hB t, Option.bind_some]
        dsimp only
        rw [s_200, Option.bind_some]
        dsimp only
        rw [zt_if, if_pos cd, s_74 w d hB t, Option.bind_some]
        dsimp only
        rw [ez]
      rw [key, show zup (zup σ 78 2 (ysc pdg n B c)) 84 i V = zup (zup (zup σ 78 2 (j + 1)) 78 2 (ysc pdg n B c)) 84 i V by rw [zup_2 (by decide)]]
      rcases ih (j + 1) (zar 1 (zar 0 (zar 2 v 10) (B j)) 48) (zup σ 78 2 (j + 1)) (by omega) (by omega) (by omega) (fun i x y => by
          by_cases e : i = j
          · rw [e]; exact cd
          · exact hdg i x (by omega)) (by rw [← ysc_t hB pdg_0 (pdg_i.2 cd)]; exact ej) (fun u => by
          have bd := ydgv_3 (B := B) (b := c) (j := (j - c).toNat) (by omega) (fun i x y => hdg i x (by omega))
          rw [hv (by omega), show (j + 1 - c).toNat = (j - c).toNat + 1 by omega]
          show _ = 10 * ydgv B c (j - c).toNat + (B (c + (j - c).toNat) - 48)
          rw [show c + ((j - c).toNat : Int) = j by omega, za_2, zw32_i (by omega), za_0, zw32_i (by omega), za_1, zw32_i (by omega)]
          omega) (ytC_u (by decide) (Or.inr (by decide)) t) (zup_t ⟨rfl, rfl, by decide⟩) (by rw [show zup σ 78 2 (j + 1) 84 = σ 84 from funext fun t => zup_f (by omega)]; exact ef) (fun u1 u2 => by rw [zup_f (by omega)]; exact hx u1 u2) with q | ⟨q1, σ', q2, q3, q4⟩
      · exact Or.inl q
      · exact Or.inr ⟨q1, σ', q2, q3, fun a t x y => (q4 a t x y).trans (zup_f (by omega))⟩
    · have ee : ysc pdg n B j = j := ysc_f (fun u => cd (pdg_i.1 u))
      refine stop j v σ hj hjn hdg (ej.symm.trans ee) hv e2 ef hx _ ?_
      rw [hX6_readNumber_33, t.1, if_pos (by omega), s_74 w d hB t, Option.bind_some]
      dsimp only
      rw [s_200, Option.bind_some]
      dsimp only
      rw [zt_if, if_neg cd]
theorem qno_b {n : Int} {B : Int → Int} (hB : ytB n B) {k i a : Int} (h0 : 0 ≤ a) (ha : a ≤ n) : a ≤ qno1 n B k i a ∧ qno1 n B k i a ≤ qno2 n B k i a ∧ qno2 n B k i a ≤ n := by
  have b := ysk_b hB ha
  obtain ⟨i1, i2, -⟩ := ysc_b hB pdg_0 _ (qno1 n B k i a) rfl
  have : a ≤ qno1 n B k i a ∧ qno1 n B k i a ≤ n := by
    unfold qno1
    split
    · rename_i g
      have lt : ysk n B a < n := Classical.byContradiction fun u => by have := hB.2.2.1 (ysk n B a) (by omega); have := g.1; omega
      have b2 := ysk_b hB (a := ysk n B a + 1) (by omega)
      omega
    · omega
  have e : qno2 n B k i a = ysc pdg n B (qno1 n B k i a) := rfl
  omega
theorem s_79 (w : zW) {d : Nat} (hd : 3 ≤ d) {n a k i f : Int} {B : Int → Int} {σ : zMem} (hB : ytB n B) (t : ytC σ n B) (e2 : σ 78 2 = a) (h0 : 0 ≤ a) (ha : a ≤ n) (hk : (3 ≤ k ∧ k ≤ 5) ∨ (11 ≤ k ∧ k ≤ 17)) (hi : 0 ≤ i) (hiz : i < zno k) (ef : zahead k i (σ 84) = f) (hx : k = 4 → 3 ≤ i → -40 ≤ σ 84 (i - 3)) :
    (qnok n B k i a f ∧ zcall w d 79 [zA 7 11 78, zI k, zI i] σ = some (1, zup (zup σ 78 2 (qno2 n B k i a)) 84 i (qnov n B k i a)))
    ∨ (¬ qnok n B k i a f ∧ ∃ σ', zcall w d 79 [zA 7 11 78, zI k, zI i] σ = some (0, σ') ∧ σ' 78 3 = qno1 n B k i a ∧ ∀ a t, a ≠ 84 → (a ≠ 78 ∨ (t ≠ 2 ∧ t ≠ 3)) → σ' a t = σ a t) := by
  obtain ⟨d, rfl⟩ : ∃ e, d = e + 1 := ⟨d - 1, by omega⟩
  have hn := hB.2.1
  have b := ysk_b hB ha
  have nb := qno_b hB (k := k) (i := i) h0 ha
  have t1 : ytC (zup σ 78 2 (ysk n B a)) n B := ytC_u (by decide) (Or.inr (by decide)) t
  have g2 : zup σ 78 2 (ysk n B a) 78 2 = ysk n B a := zup_t ⟨rfl, rfl, by decide⟩
  have go : ∀ (x3 : Int) (σ1 : zMem), x3 = (if qng n B k i a then 1 else 0) → zcall w (d + 1) 79 [zA 7 11 78, zI k, zI i] σ = zden w (d + 1) 79 33 [zA 7 11 78, zI k, zI i, zI x3, zI (qno1 n B k i a), zI 0, zI (qno1 n B k i a)] [] σ1 → σ1 = zup σ 78 2 (qno1 n B k i a) →
      (qnok n B k i a f ∧ zcall w (d + 1) 79 [zA 7 11 78, zI k, zI i] σ = some (1, zup (zup σ 78 2 (qno2 n B k i a)) 84 i (qnov n B k i a)))
      ∨ (¬ qnok n B k i a f ∧ ∃ σ', zcall w (d + 1) 79 [zA 7 11 78, zI k, zI i] σ = some (0, σ') ∧ σ' 78 3 = qno1 n B k i a ∧ ∀ a t, a ≠ 84 → (a ≠ 78 ∨ (t ≠ 2 ∧ t ≠ 3)) → σ' a t = σ a t) := by
    intro x3 σ1 hx3 e hσ
    have e84 : σ1 84 = σ 84 := by rw [hσ]; exact funext fun t => zup_f (by omega)
    have l := l_79 w (d := d) (by omega) (n := n) (c := qno1 n B k i a) (k := k) (i := i) (x3 := x3) (f := f) hB (by omega) hk hi hiz (by rw [hx3]; split <;> omega) (V := qnov n B k i a) (by
      rw [hx3]; unfold qnov
      by_cases g : qng n B k i a
      · rw [if_pos g, if_pos g, if_neg (by decide)]; rfl
      · rw [if_neg g, if_neg g, if_pos rfl]; rfl) _ (qno1 n B k i a) 0 σ1 rfl (Int.le_refl _) (by omega) (fun i x y => by omega) rfl (fun _ => by rw [show (qno1 n B k i a - qno1 n B k i a).toNat = 0 by omega]; rfl) (by rw [hσ]; exact ytC_u (by decide) (Or.inr (by decide)) t) (by rw [hσ]; exact zup_t ⟨rfl, rfl, by decide⟩) (by rw [e84]; exact ef) (fun u1 u2 => by rw [e84]; exact hx u1 u2)
    rw [e]
    rcases l with ⟨q1, q2⟩ | ⟨q1, σ', q2, q3, q4⟩
    · refine Or.inl ⟨q1, ?_⟩
      rw [q2, hσ, zup_2 (by decide)]; rfl
    · refine Or.inr ⟨q1, σ', q2, q3, fun a t x y => (q4 a t x y).trans (by rw [hσ, zup_f (by omega)])⟩
  have e79 := eX6_readNumber w d k i σ
  rw [s_75 w (by omega) hB t e2 h0, Option.bind_some] at e79
  dsimp only at e79
  rw [g2, s_74 w d hB t1, Option.bind_some] at e79
  dsimp only at e79
  by_cases c1 : B (ysk n B a) = 45
  · rw [if_pos c1, s_33 w d i hk, Option.bind_some] at e79
    dsimp only at e79
    rw [zt_if, g2] at e79
    by_cases c2 : qmi k i
    · have g : qng n B k i a := ⟨c1, c2⟩
      have lt : ysk n B a < n := Classical.byContradiction fun u => by have := hB.2.2.1 (ysk n B a) (by omega); omega
      have ez : zar 0 (ysk n B a) 1 = ysk n B a + 1 := by rw [za_0, zw32_i (by omega)]
      have en : qno1 n B k i a = ysk n B (ysk n B a + 1) := by unfold qno1; rw [if_pos g]
      rw [if_pos c2, ez, zup_2 (by decide), s_75 w (by omega) hB (a := ysk n B a + 1) (ytC_u (by decide) (Or.inr (by decide)) t) (zup_t ⟨rfl, rfl, by decide⟩) (by omega), Option.bind_some] at e79
      dsimp only at e79
      rw [zup_2 (by decide), zup_t ⟨rfl, rfl, by decide⟩, ← en] at e79
      exact go 1 _ (by rw [if_pos g]) e79 rfl
    · have g : ¬ qng n B k i a := fun u => c2 u.2
      have en : qno1 n B k i a = ysk n B a := by unfold qno1; rw [if_neg g]
      rw [if_neg c2, ← en] at e79
      exact go 0 _ (by rw [if_neg g]) e79 rfl
  · have g : ¬ qng n B k i a := fun u => c1 u.1
    have en : qno1 n B k i a = ysk n B a := by unfold qno1; rw [if_neg g]
    rw [if_neg c1, g2, ← en] at e79
    exact go 0 _ (by rw [if_neg g]) e79 rfl
end
