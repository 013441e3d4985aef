section
/-! Call 9, shape: what stays true with all that was read -/
/-- rows behind the table, and what was found of them, count for nothing in either program -/
theorem zInv_E {σ σ' : zMem} {n : Int} (t : zInv σ) (en : σ 209 1 = n) (h : ∀ a k, zsX a k ∨ zsR a k → ¬ (3 ≤ a ∧ a ≤ 9) → a ≠ 87 → a ≠ 210 → σ' a k = σ a k) (h8 : ∀ a k, 3 ≤ a → a ≤ 8 → 0 ≤ k → k < n → σ' a k = σ a k) (h9 : ∀ k, 0 ≤ k → k < 6 * n → σ' 9 k = σ 9 k) (h87 : ∀ k, 0 ≤ k → k < n → σ' 87 k = σ 87 k) (hT : ∀ k, 0 ≤ k → k < 11 * n → σ' 210 k = σ 210 k) : zInv σ' := by
  obtain ⟨t0, ⟨tT, tTb⟩, tC, tK, tB, tS, tR, tP⟩ := t
  rw [en] at tT tTb tC
  have n1 : σ' 209 1 = n := (h _ _ (by unfold zsX zsT; omega) (by decide) (by decide) (by decide)).trans en
  have W1 := zWF_c tT hT
  have e27 : σ' 2 7 = σ 2 7 := h _ _ (by unfold zsX zsT; omega) (by decide) (by decide) (by decide)
  have KF : ∀ a k, zsK a k → a ≠ 210 → σ' a k = σ a k := fun a k q u => h a k (Or.inl (Or.inr (Or.inr (Or.inr (Or.inl q))))) (by unfold zsK at q; omega) (by unfold zsK at q; omega) u
  refine ⟨(h _ _ (by unfold zsX; omega) (by decide) (by decide) (by decide)).trans t0, ?_, ?_, ?_, zI_B_fr (fun a k q => h _ _ (Or.inl (Or.inr (Or.inr (Or.inr (Or.inr (Or.inl q)))))) (by unfold zsB at q; omega) (by unfold zsB at q; omega) (by unfold zsB at q; omega)) tB, zI_S_fr (fun a k q => h _ _ (Or.inl (Or.inr (Or.inr (Or.inr (Or.inr (Or.inr (Or.inl q))))))) (by unfold zsS at q; omega) (by unfold zsS at q; omega) (by unfold zsS at q; omega)) tS, zI_R_fr (fun a k q => h _ _ (Or.inr q) (by unfold zsR at q; omega) (by unfold zsR at q; omega) (by unfold zsR at q; omega)) tR, zI_P_fr (fun a k q => h _ _ (Or.inl (Or.inr (Or.inr (Or.inr (Or.inr (Or.inr (Or.inr q))))))) (by unfold zsP at q; omega) (by unfold zsP at q; omega) (by unfold zsP at q; omega)) tP⟩
  · unfold zI_T
    rw [n1]
    exact ⟨W1, zTb_c tT hT (yTb_lo tT.2.1 e27 h8 h9 tTb)⟩
  · rw [n1]
    intro i i0 i1
    have h24 := tT.2.1
    rw [h87 i i0 i1, zlkN_c tT hT i0 i1 4 0 0 0, zns_c tT hT i0 i1]
    rcases tC i i0 i1 with u | u
    · exact Or.inl u
    · exact Or.inr ⟨u.1, zPS_fr (fun k => h _ _ (Or.inl (Or.inr (Or.inr (Or.inl (by unfold zsC; omega))))) (by omega) (by omega) (by omega)) u.2⟩
  · obtain ⟨k1, k2, k3, k4, k5, k6⟩ := tK
    rw [en] at k4
    have e14 : σ' 1 14 = σ 1 14 := KF _ _ (by unfold zsK; omega) (by decide)
    have e15 : σ' 1 15 = σ 1 15 := KF _ _ (by unfold zsK; omega) (by decide)
    have e31 : σ' 209 31 = σ 209 31 := KF _ _ (by unfold zsK; omega) (by decide)
    have e243 : σ' 243 = σ 243 := funext fun t => KF _ _ (by unfold zsK; omega) (by decide)
    have e258 : σ' 258 = σ 258 := funext fun t => KF _ _ (by unfold zsK; omega) (by decide)
    have e244 : σ' 244 = σ 244 := funext fun t => KF _ _ (by unfold zsK; omega) (by decide)
    unfold zI_K
    rw [e14, e15, e31, n1, e243, e258, e244]
    refine ⟨k1, k2, k3, k4, k5, fun u => ?_⟩
    obtain ⟨v1, v2, v3, v4, v5⟩ := k6 u
    refine ⟨v1, zTb_fr (fun a t x y => KF _ _ (by unfold zsK; omega) (by omega)) v2, v3, fun t x y => by rw [hT t x (by omega)]; exact v4 t x y, ?_⟩
    have u6 := zBl_fr (σ' := σ') (fun a k q r => KF _ _ (by unfold zsK; omega) (by omega)) v5
    obtain ⟨w1, w2, w3, w4, w5, w6, w7, w8, w9, w10⟩ := u6
    refine ⟨w1, w2, w3, w4, w5, w6, w7, w8, w9, fun i q r => ?_⟩
    have e9 : σ' (246 + i) = σ (246 + i) := funext fun k => KF _ _ (by unfold zsK; omega) (by omega)
    dsimp only
    rw [e9]
    exact w10 i q r
/-- one row after the other becomes a shape -/
theorem q_add {σ F : zMem} {b r : Int} (hI : zInv σ) (en : σ 209 1 = b) (hr : 0 ≤ r) (hbr : b + r ≤ 24) (n2 : F 2 7 = b + r) (n9 : F 209 1 = b + r)
    (h : ∀ a k, zsX a k ∨ zsR a k → ¬ (3 ≤ a ∧ a ≤ 9) → a ≠ 87 → a ≠ 210 → (a ≠ 2 ∨ k ≠ 7) → (a ≠ 209 ∨ k ≠ 1) → F a k = σ a k) (h8 : ∀ a k, 3 ≤ a → a ≤ 8 → 0 ≤ k → k < b → F a k = σ a k) (h9 : ∀ k, 0 ≤ k → k < 6 * b → F 9 k = σ 9 k) (h87 : ∀ k, 0 ≤ k → k < b → F 87 k = σ 87 k) (z87 : ∀ k, b ≤ k → k < 24 → F 87 k = 0) (hT : ∀ k, 0 ≤ k → k < 11 * b → F 210 k = σ 210 k)
    (rows : ∀ s, 0 ≤ s → s < r → qrA b F (b + s) ∧ F 210 (11 * (b + s)) = F 3 (b + s) ∧ F 210 (11 * (b + s) + 1) = F 4 (b + s) ∧ F 210 (11 * (b + s) + 2) = F 5 (b + s) ∧ F 210 (11 * (b + s) + 3) = F 6 (b + s) ∧ F 210 (11 * (b + s) + 4) = F 7 (b + s) ∧ ∀ t, 0 ≤ t → t < zno (F 3 (b + s)) → F 210 (11 * (b + s) + 5 + t) = F 9 (6 * (b + s) + t)) : zInv F := by
  have hb : 0 ≤ b := by rw [← en]; exact hI.2.1.1.1
  obtain ⟨τ, hτ⟩ : ∃ τ : Nat → zMem, ∀ j a t, τ j a t = if (a = 2 ∧ t = 7) ∨ (a = 209 ∧ t = 1) then b + j else F a t := ⟨fun j a t => if (a = 2 ∧ t = 7) ∨ (a = 209 ∧ t = 1) then b + j else F a t, fun _ _ _ => rfl⟩
  have to : ∀ j a t, (a ≠ 2 ∨ t ≠ 7) → (a ≠ 209 ∨ t ≠ 1) → τ j a t = F a t := fun j a t u v => by rw [hτ, if_neg (by omega)]
  have tn : ∀ j, τ j 2 7 = b + j ∧ τ j 209 1 = b + j := fun j => ⟨by rw [hτ, if_pos (Or.inl ⟨rfl, rfl⟩)], by rw [hτ, if_pos (Or.inr ⟨rfl, rfl⟩)]⟩
  have all : ∀ j : Nat, (j : Int) ≤ r → zInv (τ j) := by
    intro j
    induction j with
    | zero =>
      intro _
      refine zInv_E hI en (fun a k q u1 u2 u3 => ?_) (fun a k x y z u => (to 0 a k (by omega) (by omega)).trans (h8 a k x y z u)) (fun k x y => (to 0 _ _ (by omega) (by omega)).trans (h9 k x y)) (fun k x y => (to 0 _ _ (by omega) (by omega)).trans (h87 k x y)) (fun k x y => (to 0 _ _ (by omega) (by omega)).trans (hT k x y))
      by_cases c : (a = 2 ∧ k = 7) ∨ (a = 209 ∧ k = 1)
      · rw [hτ, if_pos c]
        rcases c with ⟨rfl, rfl⟩ | ⟨rfl, rfl⟩
        · have : σ 2 7 = σ 209 1 := hI.2.1.2.1
          omega
        · omega
      · rw [to 0 a k (by omega) (by omega)]
        exact h a k q u1 u2 u3 (by omega) (by omega)
    | succ j ih =>
      intro hj
      have I := ih (by omega)
      obtain ⟨⟨ra1, ra2, ra3, ra4, ra5⟩, f0, f1, f2, f3, f4, f5⟩ := rows j (by omega) (by omega)
      have W := I.2.1.1
      rw [(tn j).2] at W
      have Tb := I.2.1.2
      rw [(tn j).2] at Tb
      have F210 : τ j 210 = F 210 := funext fun t => to j _ _ (by omega) (by omega)
      rw [F210] at W Tb
      have pq : ypq (b + j) (F 3 (b + j)) (F 4 (b + j)) (F 5 (b + j)) := by unfold qkr at ra1; unfold ypq; omega
      have low : ∀ x, 0 ≤ x → x < b + j → F 6 x = F 210 (11 * x + 3) ∧ F 7 x = F 210 (11 * x + 4) ∧ F 8 x = zsolN (F 210) 7 x := fun x x0 x1 => by
        obtain ⟨-, -, -, v4, v5, v6, -⟩ := Tb.2 x x0 x1
        exact ⟨(to j _ _ (by omega) (by omega)).symm.trans v4, (to j _ _ (by omega) (by omega)).symm.trans v5, (to j _ _ (by omega) (by omega)).symm.trans v6⟩
      have eqs : qde F (F 3 (b + j)) (F 4 (b + j)) (F 5 (b + j)) = ydp (F 210) (F 3 (b + j)) (F 4 (b + j)) (F 5 (b + j)) ∧ qbl F (F 3 (b + j)) (F 4 (b + j)) (F 5 (b + j)) = ybd (F 210) (F 3 (b + j)) (F 4 (b + j)) (F 5 (b + j)) ∧ qso F (F 3 (b + j)) (F 4 (b + j)) (F 5 (b + j)) = yso (F 210) (F 3 (b + j)) (F 4 (b + j)) (F 5 (b + j)) := by
        unfold qde qbl qso ydp ybd yso
        generalize F 3 (b + j) = K at *
        generalize F 4 (b + j) = p at *
        generalize F 5 (b + j) = q at *
        rcases ra1 with ⟨x, y, rfl, rfl⟩ | ⟨x, y, hp, hq⟩ | ⟨x, y, hp, rfl⟩
        · simp only [if_pos y]; exact ⟨trivial, trivial, trivial⟩
        · have n1 : ¬ K ≤ 5 := by omega
          have n2 : ¬ p < 0 := by omega
          have n3 : ¬ q < 0 := by omega
          obtain ⟨p1, p2, p3⟩ := low p (by omega) hp.2
          obtain ⟨q1, q2, q3⟩ := low q (by omega) hq.2
          simp only [if_neg n1, if_neg n2, if_neg n3]
          rw [p1, p2, p3, q1, q2, q3]
          exact ⟨rfl, rfl, rfl⟩
        · have n1 : ¬ K ≤ 5 := by omega
          have n2 : ¬ p < 0 := by omega
          have n3 : (-1 : Int) < 0 := by decide
          obtain ⟨p1, p2, p3⟩ := low p (by omega) hp.2
          simp only [if_neg n1, if_neg n2, if_pos n3]
          rw [p1, p2, p3]
          exact ⟨rfl, rfl, rfl⟩
      obtain ⟨g1, g2, g3⟩ := eqs
      rw [g1] at ra2
      rw [g2] at ra3
      rw [g3] at ra4
      have nj : b + ((j + 1 : Nat) : Int) = b + j + 1 := by omega
      refine yadd (σ := τ j) (σ' := τ (j + 1)) (n := b + j) (k := F 3 (b + j)) (p := F 4 (b + j)) (q := F 5 (b + j)) (N := fun t => F 9 (6 * (b + j) + t)) I (tn j).2 (by omega) pq ra5 (by rw [F210]; omega) (by rw [F210]; omega)
        ((to _ _ _ (by omega) (by omega)).trans f0) ((to _ _ _ (by omega) (by omega)).trans f1) ((to _ _ _ (by omega) (by omega)).trans f2) (by rw [F210]; exact (to _ _ _ (by omega) (by omega)).trans (f3.trans ra2.1)) (by rw [F210]; exact (to _ _ _ (by omega) (by omega)).trans (f4.trans ra3.1)) (fun t x y => (to _ _ _ (by omega) (by omega)).trans (f5 t x y)) (fun t _ => (to _ _ _ (by omega) (by omega)).trans (to _ _ _ (by omega) (by omega)).symm)
        ((tn (j + 1)).2.trans nj) (fun t u => (to _ _ _ (by omega) (Or.inr u)).trans (to _ _ _ (by omega) (Or.inr u)).symm) ((tn (j + 1)).1.trans nj) (to _ _ _ (by omega) (by omega)) (to _ _ _ (by omega) (by omega)) (to _ _ _ (by omega) (by omega)) (by rw [F210]; exact (to _ _ _ (by omega) (by omega)).trans ra2.1) (by rw [F210]; exact (to _ _ _ (by omega) (by omega)).trans ra3.1) (by rw [F210]; exact (to _ _ _ (by omega) (by omega)).trans ra4.1) (fun t x y => to _ _ _ (by omega) (by omega))
        (fun a t x y _ => (to _ _ _ (by omega) (by omega)).trans (to _ _ _ (by omega) (by omega)).symm) (fun t _ => (to _ _ _ (by omega) (by omega)).trans (to _ _ _ (by omega) (by omega)).symm) (fun t _ => (to _ _ _ (by omega) (by omega)).trans (to _ _ _ (by omega) (by omega)).symm) ((to _ _ _ (by omega) (by omega)).trans (z87 _ (by omega) (by omega))) (fun a t u v x _ _ _ => (to _ _ _ (by omega) (by omega)).trans (to _ _ _ (by omega) (by omega)).symm)
  have e : τ r.toNat = F := funext fun a => funext fun t => by
    by_cases c : (a = 2 ∧ t = 7) ∨ (a = 209 ∧ t = 1)
    · rw [hτ, if_pos c]
      rcases c with ⟨rfl, rfl⟩ | ⟨rfl, rfl⟩ <;> omega
    · exact to _ _ _ (by omega) (by omega)
  rw [← e]
  exact all r.toNat (by omega)
end
