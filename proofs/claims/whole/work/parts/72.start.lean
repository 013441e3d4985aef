/-! From the law's entry to its loop -/
theorem zK_same {w : zW} {a : Int} (h : a ≠ -1) : zK w a = zK zw1 a := by
  cases a with
  | ofNat n => rfl
  | negSucc n => cases n with
    | zero => exact absurd rfl h
    | succ n => rfl
theorem zR_same {w : zW} {a : Int} (h : a ≠ -1) (k : Int) : zR w a k = zR zw1 a k := by
  cases a with
  | ofNat n => rfl
  | negSucc n => cases n with
    | zero => exact absurd rfl h
    | succ n => rfl
theorem zty_same {w : zW} {a : Int} (h : a ≠ -1) (k : Int) : zty w a k = zty zw1 a k := by unfold zty; rw [zK_same h]
theorem ztg_same {w : zW} {a : Int} (h : a ≠ -1) (k : Int) : ztg w a k = ztg zw1 a k := by unfold ztg; rw [zK_same h]
theorem zfds_t : ∀ q ∈ zfds, q.2.2.2.1 ≠ 23 := by
  intro q hq
  have h : (zfds.all fun q => decide (q.2.2.2.1 ≠ 23)) = true := by decide +kernel
  exact of_decide_eq_true (List.all_eq_true.mp h q hq)
theorem ztg_23 {w : zW} {a k : Int} : (ztg w a k).1 ≠ 23 := by
  unfold ztg
  split
  · split
    · rename_i q hq
      exact zfds_t q (List.mem_of_find?_eq_some hq)
    · exact (by decide : (0 : Int) ≠ 23)
  · unfold zet
    split
    · exact (by decide : (2 : Int) ≠ 23)
    · split
      · exact (by decide : (6 : Int) ≠ 23)
      · split
        · exact (by decide : (40 : Int) ≠ 23)
        · exact (by decide : (22 : Int) ≠ 23)
theorem zvr_same {w : zW} {n b : Int} {t : Int × Int} (ht : t.1 ≠ 23) (h : zvr zw1 n b t) : zvr w n b t ∧ b ≠ -1 := by
  obtain ⟨h1, h2, h3⟩ := h
  have hb : b ≠ -1 := fun q => by
    subst q
    rw [zK_m1] at h1
    rw [← h1] at ht
    exact ht rfl
  exact ⟨⟨(zK_same hb).trans h1, h2, h3⟩, hb⟩
theorem zsk_same {w : zW} {σ : zMem} {a k : Int} (ha : 0 < a) (h : zsk zw1 σ a k) : zsk w σ a k := by
  unfold zsk at h ⊢
  rw [zty_same (by omega), ztg_same (by omega), zR_same (by omega)]
  generalize zty zw1 a k = t at h ⊢
  rcases t with _ | _ | _ | _ | _ | _ | _ | _ | t
  · exact h
  · exact h
  · exact h
  · exact fun z => (zvr_same ztg_23 ((show σ a k = 1 → zvr zw1 (σ 0 0) (zR zw1 a k) (ztg zw1 a k) from h) z)).1
  · exact h
  · exact h
  · exact h
  · exact (zvr_same (by decide) (show zvr zw1 (σ 0 0) (σ a k) (22, 4096) from h)).1
  · exact h
theorem zsv_same {w : zW} {ad ad1 : Int → Nat} {σ : zMem} {a k : Int} (had : ∀ a, a ≠ -1 → ad a = ad1 a) (ha : 0 < a) (h : zsk zw1 σ a k) : zsv w ad σ a k = zsv zw1 ad1 σ a k := by
  unfold zsk at h
  unfold zsv
  rw [zty_same (by omega), zR_same (by omega)]
  generalize zty zw1 a k = t at h ⊢
  split
  · rfl
  · split
    · rename_i e
      rw [had _ (zvr_same (w := w) ztg_23 ((show σ a k = 1 → zvr zw1 (σ 0 0) (zR zw1 a k) (ztg zw1 a k) from h) e)).2]
    · rfl
  · rw [had _ (zvr_same (w := w) (by decide) (show zvr zw1 (σ 0 0) (σ a k) (22, 4096) from h)).2]
  · rfl
theorem zWo_same {w : zW} {D : va_G} {B0 : Nat} {ad ad1 : Int → Nat} {ca : Int → ClassId} {σ : zMem} {s : State} {H : Heap} (had : ∀ a, a ≠ -1 → ad a = ad1 a) (h : zWo zw1 D B0 ad1 ca σ s H) : zWo w D B0 ad ca σ s H := by
  obtain ⟨h1, h2, h3, h4, h5, h6⟩ := h
  refine ⟨fun a g1 g2 => ?_, fun a b g1 g2 g3 g4 q => h2 a b g1 g2 g3 g4 (by rw [← had a (by omega), ← had b (by omega)]; exact q), fun a k g1 g2 g3 g4 => ?_, h4, h5, fun a g1 g2 => by rw [zK_same (by omega)]; exact h6 a g1 g2⟩
  · obtain ⟨i1, i2, i3⟩ := h1 a g1 g2
    have hs : ∀ k : Int, 0 ≤ k → k < (zK zw1 a).2 → zsv w ad σ a k = zsv zw1 ad1 σ a k := fun k q1 q2 => zsv_same had g1 (h3 a k g1 g2 q1 q2)
    rw [had a (by omega), zK_same (by omega)]
    refine ⟨?_, i2, i3⟩
    unfold zce at i1 ⊢
    rw [zK_same (w := w) (a := a) (by omega), had a (by omega)]
    split at i1
    · rename_i hc
      rw [if_pos hc]
      obtain ⟨r, q1, cell, q2, q3, q4, q5⟩ := i1
      refine ⟨r, q1, cell, q2, q3, q4, fun k hk => ?_⟩
      rw [q5 k hk]
      congr 1
      exact (hs k (by omega) (by rw [zKc g1 hc (h6 a g1 g2) q1]; omega)).symm
    · rename_i hc
      rw [if_neg hc, i1]
      congr 1
      exact arrV_ext fun j hj => (hs j (by omega) (by omega)).symm
  · rw [zK_same (by omega)] at g4
    exact zsk_same g1 (h3 a k g1 g2 g3 g4)
def zadm (ad : Int → Nat) : Int → Nat := fun a => if a = -1 then ad (-2) else ad a
theorem zadm_n {ad : Int → Nat} {a : Int} (h : a ≠ -1) : zadm ad a = ad a := if_neg h
theorem zOld_1 {w : zW} {ad : Int → Nat} {v0 : Value} {B0 : Nat} {s : State} {H : Heap} (h : zOld w ad v0 B0 s H) (hU : va_T .int (ad (-2)) 18 (fun j => .int (Int32.ofInt (zR w (-2) (j : Nat)))) (zA0 B0) s H) : zOld zw1 (zadm ad) v0 B0 s H := by
  obtain ⟨h1, h2, h3, h4, h5, h6, h7, h8, h9⟩ := h
  refine ⟨fun a ha hk => ?_, fun a ha hk => ?_, fun a ha hk => ?_, h4, h5, h6, h7, h8, fun q hq => ?_⟩
  · by_cases e : a = -1
    · subst e
      exact hU
    · have := h1 a ha (by rw [zK_same e]; exact hk)
      rw [zK_same e] at this
      rw [zadm_n e]
      refine va_T_congr this fun j hj => ?_
      rw [zR_same e]
  · have e : a ≠ -1 := fun q => by subst q; exact absurd (show (23 : Int) = 40 from hk) (by decide)
    have := h2 a ha (by rw [zK_same e]; exact hk)
    obtain ⟨f1, f2, -, -⟩ := zneg40 (w := zw1) ha hk
    have e2 : zR zw1 a 0 ≠ -1 := fun q => by rw [q] at f1; exact absurd (congrArg Prod.fst f1) (by decide)
    rw [zR_same e] at this
    rw [zadm_n e, zadm_n e2]
    exact this
  · have e : a ≠ -1 := fun q => by subst q; exact absurd (show (23 : Int) = 24 from hk) (by decide)
    have := h3 a ha (by rw [zK_same e]; exact hk)
    rw [zadm_n e]
    rw [zR_same e] at this
    exact va_T_congr this fun j hj => by rw [zR_same e]
  · have hz := zsis_K (w := zw1) q hq
    have e : q.2.2 ≠ -1 := fun z => by rw [z] at hz; exact absurd (congrArg Prod.fst hz.1) (by decide)
    rw [zadm_n e]
    exact h9 q hq
theorem zPu_1 : zPu zw1 := by
  refine ⟨by decide, by decide, fun k h1 h2 => ?_⟩
  have h : ((List.range 18).all fun i => decide (-128 ≤ zR zw0 (-2) i ∧ zR zw0 (-2) i < 128)) = true := by decide +kernel
  have h2 : k < 18 := h2
  have := of_decide_eq_true (List.all_eq_true.mp h k.toNat (List.mem_range.mpr (by omega)))
  rw [show ((k.toNat : Nat) : Int) = k by omega] at this
  exact ⟨by show _ ≤ zR zw0 (-2) k; omega, by show zR zw0 (-2) k < _; omega⟩
/-- the flags are set -/
noncomputable def zflC (a : Nat) : Bool := match znth zKt a with
  | some (c, n) => if c ≤ 13 then (List.range n.toNat).all (fun k => match zfds.find? (fun q => decide ((q.1 : Int) = c) && decide ((q.2.1 : Int) = (k : Int))) with
      | some q => decide (q.2.2.1 ≠ 3) || decide (zlgv zlgB a k = 1)
      | none => true)
    else decide (c = 20 ∨ c = 21 ∨ c = 22 ∨ c = 33) || (List.range n.toNat).all (fun k => decide (zlgv zlgB a k = 1))
  | none => true
set_option maxRecDepth 1000000 in
theorem zflC_all : ((List.range 259).all zflC) = true := by decide +kernel
theorem zFl_start {w : zW} : zFl w (zlf (259, zlgB)) := by
  intro a k g1 g2 g3 g4 g5
  obtain ⟨n, rfl⟩ : ∃ n : Nat, a = (n : Int) := ⟨a.toNat, by omega⟩
  obtain ⟨i, rfl⟩ : ∃ i : Nat, k = (i : Int) := ⟨k.toNat, by omega⟩
  have g2 : (n : Int) < 259 := g2
  have hc := List.all_eq_true.mp zflC_all n (List.mem_range.mpr (by omega))
  unfold zflC at hc
  have e : zK w (n : Int) = (znth zKt n).getD (0, 0) := rfl
  rw [e] at g4
  unfold zty at g5
  rw [e] at g5
  show zlrd (259, zlgB) (n : Int) (i : Int) = 1
  rw [zlrd_n (by omega)]
  cases hq : znth zKt n with
  | none => rw [hq] at g4; have g4 : (i : Int) < 0 := g4; omega
  | some q =>
    obtain ⟨c, m⟩ := q
    rw [hq] at hc g4 g5
    have g4 : (i : Int) < m := g4
    dsimp only at hc
    by_cases h13 : c ≤ 13
    · rw [if_pos h13] at hc
      rw [show ((some (c, m)).getD (0, 0)).1 = c from rfl, if_pos h13] at g5
      have h1 := List.all_eq_true.mp hc i (List.mem_range.mpr (by omega))
      unfold zfind at g5
      split at h1
      · rename_i q hf
        rw [hf] at g5
        have g5 : q.2.2.1 = 3 := g5
        simp only [Bool.or_eq_true, decide_eq_true_eq] at h1
        rcases h1 with h1 | h1
        · exact absurd g5 h1
        · exact h1
      · rename_i hf
        rw [hf] at g5
        cases g5
    · rw [if_neg h13] at hc
      rw [show ((some (c, m)).getD (0, 0)).1 = c from rfl, if_neg h13] at g5
      simp only [Bool.or_eq_true, decide_eq_true_eq] at hc
      rcases hc with hc | hc
      · exfalso
        rcases hc with rfl | rfl | rfl | rfl
        · rw [if_pos rfl] at g5; cases g5
        · rw [if_neg (by decide), if_pos rfl] at g5; cases g5
        · rw [if_neg (by decide), if_neg (by decide), if_pos rfl] at g5; cases g5
        · rw [if_neg (by decide), if_neg (by decide), if_neg (by decide), if_pos rfl] at g5; cases g5
      · exact of_decide_eq_true (List.all_eq_true.mp hc i (List.mem_range.mpr (by omega)))
