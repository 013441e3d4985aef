/-! References put into arrays; the world grows -/
theorem zaty_ref {cc : Int} (h : 30 ≤ cc) : (zaty cc).isReference = true := by
  unfold zaty
  rw [if_neg (by omega), if_neg (by omega), if_neg (by omega)]
  split <;> (try split) <;> (try split) <;> rfl
theorem arrV_ext {cI : ClassId} {N : Nat} {f g : Nat → Value} (h : ∀ j, j < N → f j = g j) : arrV cI N f = arrV cI N g := by
  unfold arrV
  congr 2
  funext j
  exact h j.val j.isLt
theorem zKc_a : ((List.range zKt.length).all fun a => match znth zKt a with
    | some (c, n) => decide (c ≤ 0) || decide (13 < c) || (match znth zcl (c - 1).toNat with
      | some r => decide (n = (r.2.2 : Int))
      | none => false)
    | none => false) = true := by decide +kernel
theorem zKc {w : zW} {a : Int} {r : vw_C} (ha : 0 < a) (hc : (zK w a).1 ≤ 13) (hc0 : 0 < (zK w a).1) (h : znth zcl ((zK w a).1 - 1).toNat = some r) : (zK w a).2 = (r.2.2 : Int) := by
  obtain ⟨n, rfl⟩ : ∃ n : Nat, a = (n : Int) := ⟨a.toNat, by omega⟩
  have e : zK w (n : Int) = (znth zKt n).getD (0, 0) := rfl
  rw [e] at hc hc0 h ⊢
  cases hq : znth zKt n with
  | none => rw [hq] at hc0; exact absurd hc0 (by decide)
  | some q =>
    rw [hq] at hc hc0 h
    obtain ⟨c, k⟩ := q
    have h1 := List.all_eq_true.mp zKc_a n (List.mem_range.mpr (znth_len hq))
    rw [hq] at h1
    have hc : c ≤ 13 := hc
    have hc0 : 0 < c := hc0
    have h : znth zcl (c - 1).toNat = some r := h
    dsimp only at h1
    rw [h] at h1
    have h2 : (decide (c ≤ 0) || decide (13 < c) || decide (k = (r.2.2 : Int))) = true := h1
    have h3 : k = (r.2.2 : Int) := by
      simp only [Bool.or_eq_true, decide_eq_true_eq] at h2
      omega
    exact h3
theorem zce.kept2 {w : zW} {D : va_G} {ad ad' : Int → Nat} {ca ca' : Int → ClassId} {σ σ' : zMem} {a : Int} {H H' : Heap} (h : zce w D ad ca σ a H) (ha : 0 < a) (hc0 : 0 < (zK w a).1) (had : ad' a = ad a) (hca : ca' a = ca a) (hq : H'[ad a]? = H[ad a]?)
    (hs : ∀ k : Int, 0 ≤ k → k < (zK w a).2 → zsv w ad' σ' a k = zsv w ad σ a k) : zce w D ad' ca' σ' a H' := by
  unfold zce at h ⊢
  split at h
  · rename_i hc
    rw [if_pos hc]
    obtain ⟨r, h1, cell, q1, q2, q3, q4⟩ := h
    refine ⟨r, h1, cell, ?_, q2, q3, fun k hk => ?_⟩
    · rw [had, hq]; exact q1
    · rw [q4 k hk]
      congr 1
      exact (hs k (by omega) (by rw [zKc ha hc hc0 h1]; omega)).symm
  · rename_i hc
    rw [if_neg hc, had, hq, h, hca]
    congr 1
    exact arrV_ext fun j hj => (hs j (by omega) (by omega)).symm
/-- the addresses, with one more -/
def zad1 {β : Type} (ad : Int → β) (n : Int) (h : β) : Int → β := fun a => if a = n then h else ad a
theorem zad1_s {β : Type} (ad : Int → β) (n : Int) (h : β) : zad1 ad n h n = h := if_pos rfl
theorem zad1_n {β : Type} {ad : Int → β} {n a : Int} {h : β} (q : a ≠ n) : zad1 ad n h a = ad a := if_neg q
/-- a slot's value speaks of objects that are there -/
theorem zsv_old {w : zW} {ad : Int → Nat} {σ σ' : zMem} {a k : Int} {h : Nat} (hk : zsk w σ a k) (he : σ' a k = σ a k) : zsv w (zad1 ad (σ 0 0) h) σ' a k = zsv w ad σ a k := by
  unfold zsk at hk
  unfold zsv
  rw [he]
  generalize zty w a k = t at hk ⊢
  split
  · rfl
  · split
    · rename_i e
      have h1 : σ a k = 1 → zvr w (σ 0 0) (zR w a k) (ztg w a k) := hk
      rw [zad1_n (by have := (h1 e).2.2; omega)]
    · rfl
  · have h1 : zvr w (σ 0 0) (σ a k) (22, 4096) := hk
    rw [zad1_n (by have := h1.2.2; omega)]
  · rfl
/-- one more object -/
theorem zWo_push {w : zW} {D : va_G} {B0 : Nat} {ad : Int → Nat} {ca : Int → ClassId} {σ : zMem} {s : State} {H H' : Heap} {cA : ClassId} (hW : zWo w D B0 ad ca σ s H) (hB : B0 ≤ H.size) (hold : ∀ q, q < H.size → H'[q]? = H[q]?)
    (hc : zce w D (zad1 ad (σ 0 0) H.size) (zad1 ca (σ 0 0) cA) (zup σ 0 0 (σ 0 0 + 1)) (σ 0 0) H') (hpos : 0 < (zK w (σ 0 0)).1) (harr : 13 < (zK w (σ 0 0)).1 → zaK s cA (zK w (σ 0 0)).1)
    (hsk : ∀ k : Int, 0 ≤ k → k < (zK w (σ 0 0)).2 → zsk w (zup σ 0 0 (σ 0 0 + 1)) (σ 0 0) k) : zWo w D B0 (zad1 ad (σ 0 0) H.size) (zad1 ca (σ 0 0) cA) (zup σ 0 0 (σ 0 0 + 1)) s H' := by
  obtain ⟨h1, h2, h3, h4, h5, h6⟩ := hW
  have h0 : zup σ 0 0 (σ 0 0 + 1) 0 0 = σ 0 0 + 1 := zup_0 (by omega)
  have hs : ∀ a k : Int, a ≠ 0 → zup σ 0 0 (σ 0 0 + 1) a k = σ a k := fun a k q => zup_n (fun z => q z.1)
  have hup : ∀ a k : Int, a ≠ 0 → zsk w σ a k → zsk w (zup σ 0 0 (σ 0 0 + 1)) a k := by
    intro a k q hk
    unfold zsk at hk ⊢
    rw [hs a k q, h0]
    generalize zty w a k = t at hk ⊢
    rcases t with _ | _ | _ | _ | _ | _ | _ | _ | t
    · exact hk
    · exact hk
    · exact hk
    · intro z
      have h7 : σ a k = 1 → zvr w (σ 0 0) (zR w a k) (ztg w a k) := hk
      obtain ⟨g1, g2, g3⟩ := h7 z
      exact ⟨g1, g2, by omega⟩
    · exact hk
    · exact hk
    · exact hk
    · have h7 : zvr w (σ 0 0) (σ a k) (22, 4096) := hk
      obtain ⟨g1, g2, g3⟩ := h7
      exact ⟨g1, g2, by omega⟩
    · exact hk
  refine ⟨fun a g1 g2 => ?_, fun a a' g1 g2 g3 g4 e => ?_, fun a k g1 g2 g3 g4 => ?_, fun a k g => ?_, by rw [h0]; omega, fun a g1 g2 => ?_⟩
  · rw [h0] at g2
    by_cases e : a = σ 0 0
    · subst e
      rw [zad1_s, zad1_s]
      exact ⟨hc, hB, harr⟩
    · obtain ⟨i1, i2, i3⟩ := h1 a g1 (by omega)
      rw [zad1_n e, zad1_n e]
      refine ⟨i1.kept2 g1 (h6 a g1 (by omega)) (zad1_n e) (zad1_n e) (hold _ (zce_lt i1)) (fun k q1 q2 => zsv_old (h3 a k g1 (by omega) q1 q2) (hs a k (by omega))), i2, i3⟩
  · rw [h0] at g2 g4
    have hlt : ∀ b : Int, 0 < b → b < σ 0 0 → ad b < H.size := fun b q1 q2 => zce_lt (h1 b q1 q2).1
    by_cases e1 : a = σ 0 0 <;> by_cases e2 : a' = σ 0 0
    · omega
    · rw [e1, zad1_s, zad1_n e2] at e
      have := hlt a' g3 (by omega)
      omega
    · rw [e2, zad1_s, zad1_n e1] at e
      have := hlt a g1 (by omega)
      omega
    · rw [zad1_n e1, zad1_n e2] at e
      exact h2 a a' g1 (by omega) g3 (by omega) e
  · rw [h0] at g2
    by_cases e : a = σ 0 0
    · subst e; exact hsk k g3 g4
    · exact hup a k (by omega) (h3 a k g1 (by omega) g3 g4)
  · rw [h0] at g
    rw [hs a k (by omega)]
    exact h4 a k (by omega)
  · rw [h0] at g2
    by_cases e : a = σ 0 0
    · subst e; exact hpos
    · exact h6 a g1 (by omega)
section
variable {p : Program} {l : Launch} {e : Env} {R : Room} {s : State} {m : MethodId} {args : Array Value} {below : List Frame} {meth : Method} {c : Code} {H : Heap} {locs : List Loc} {cells slots : Nat} {Q : State → Prop}
variable {w : zW} {D : va_G} {B0 : Nat} {ad : Int → Nat} {ca : Int → ClassId} {σ : zMem} {b : ByteArray} {pc : Nat} {lsC : Array Slot} {rest : List Value} {a n i : Int} {A : Nat → Prop} {H0 : Heap}
theorem zh_aast {cc x : Int} {v : Addr} {cv : Cell} {kv : Class} (hx : p.tables.exec = Jvm.exec) (hb : c.code = b) (hW : zWo w D B0 ad ca σ s H) (ha : 0 < a) (hac : a < σ 0 0) (hS : va_S A H0 H locs) (hA : A (ad a)) (hk : zK w a = (cc, n)) (hcc : 30 ≤ cc) (hi : zc32 i) (h0 : 0 ≤ i) (h1 : i < n)
    (hv : H[v]? = some cv) (hvobj : ∀ q, cv.vm ≠ .statics q) (hkv : s.vm.classes[cv.cls]? = some kv) (hcl : s.vm.findClass (zcompN cc) = some cv.cls) (hsv : zsv w ad (zup σ a i x) a i = .ref v) (hsk : zsk w (zup σ a i x) a i) (hd : decode b pc = .ok (.aastore, 1))
    (kk : ∀ (H1 : Heap) (locs1 : List Loc), zWo w D B0 ad ca (zup σ a i x) s H1 → va_S A H0 H1 locs1 → W p l e R s m args below meth c H1 locs1 cells slots Q (F0 m (pc + 1) lsC rest)) : W p l e R s m args below meth c H locs cells slots Q (F0 m pc lsC (.ref v :: .int (Int32.ofInt i) :: .ref (ad a) :: rest)) := by
  obtain ⟨hc, hK⟩ := zarr hW ha hac hk (by omega)
  obtain ⟨kA, comp, g1, g2, g3⟩ := hK.2.2 hcc
  have ec : comp = cv.cls := Option.some.inj (g3.symm.trans hcl)
  subst ec
  have hin := zin_lt hi h0 h1
  refine W.aast hx hb hc (fun q z => by cases z) (fun z => by cases z) g1 g2 (zaty_ref hcc) hkv ⟨fun z => hin (Or.inl z), by rw [arrV_size]; exact Nat.not_le.mp (fun z => hin (Or.inr z))⟩ hv hvobj hkv (va_asg _ _) rfl rfl hd fun H1 e1 e2 e3 => ?_
  exact kk H1 _ (zWo_set hW ha hac e3 (zce_arr hk (by omega) hi h0 e1 hsv) (fun _ _ => hsk)) (hS.put e2 e3 hA)
end
