/-! System.arraycopy; arrays of arrays; the world grows by many -/
theorem zKt_all : ((List.range zKt.length).all fun a => match znth zKt a with
    | some (c, n) => decide (0 ≤ n ∧ n ≤ 65536) && (decide (c ≠ 32 ∧ c ≠ 33) || decide (0 < n)) && (decide (c ≠ 22) || decide (n = 4096))
    | none => false) = true := by decide +kernel
theorem zK_len {w : zW} {a : Int} (ha : 0 < a) : 0 ≤ (zK w a).2 ∧ (zK w a).2 ≤ 65536 ∧ ((zK w a).1 = 32 ∨ (zK w a).1 = 33 → 0 < (zK w a).2) ∧ ((zK w a).1 = 22 → (zK w a).2 = 4096) := by
  obtain ⟨n, rfl⟩ : ∃ n : Nat, a = (n : Int) := ⟨a.toNat, by omega⟩
  show 0 ≤ ((znth zKt n).getD (0, 0)).2 ∧ ((znth zKt n).getD (0, 0)).2 ≤ 65536 ∧ (((znth zKt n).getD (0, 0)).1 = 32 ∨ ((znth zKt n).getD (0, 0)).1 = 33 → 0 < ((znth zKt n).getD (0, 0)).2) ∧ (((znth zKt n).getD (0, 0)).1 = 22 → ((znth zKt n).getD (0, 0)).2 = 4096)
  cases hq : znth zKt n with
  | none => exact ⟨by decide, by decide, fun h => by rcases h with h | h <;> exact absurd h (by decide), fun h => absurd h (by decide)⟩
  | some q =>
    obtain ⟨c, k⟩ := q
    have h1 := List.all_eq_true.mp zKt_all n (List.mem_range.mpr (znth_len hq))
    rw [hq] at h1
    simp only [Bool.and_eq_true, Bool.or_eq_true, decide_eq_true_eq] at h1
    refine ⟨h1.1.1.1, h1.1.1.2, fun h => ?_, fun h => ?_⟩
    · show 0 < k
      have h : c = 32 ∨ c = 33 := h
      rcases h1.1.2 with h2 | h2
      · omega
      · exact h2
    · show k = 4096
      have h : c = 22 := h
      rcases h1.2 with h2 | h2
      · exact absurd h h2
      · exact h2
theorem zo_a (h : Nat) (n i : Int) (h0 : 0 ≤ i) : h + (n + 1 + i - n).toNat = h + 1 + i.toNat := by omega
/-- one object is changed in many places -/
theorem zWo_obj {w : zW} {D : va_G} {B0 : Nat} {ad : Int → Nat} {ca : Int → ClassId} {σ σ' : zMem} {s : State} {H H' : Heap} {a : Int} (hW : zWo w D B0 ad ca σ s H) (ha : 0 < a) (hac : a < σ 0 0) (hσ : ∀ a' k', a' ≠ a → σ' a' k' = σ a' k') (hq : ∀ q, q ≠ ad a → H'[q]? = H[q]?)
    (hc : zce w D ad ca σ' a H') (hk : ∀ k, 0 ≤ k → k < (zK w a).2 → zsk w σ' a k) : zWo w D B0 ad ca σ' s H' := by
  obtain ⟨h1, h2, h3, h4, h5⟩ := hW
  have h0 : σ' 0 0 = σ 0 0 := hσ 0 0 (by omega)
  refine ⟨fun a' g1 g2 => ?_, ?_, fun a' k' g1 g2 g3 g4 => ?_, fun a' k' g => ?_, by rw [h0]; exact h5⟩
  · rw [h0] at g2
    obtain ⟨i1, i2, i3⟩ := h1 a' g1 g2
    by_cases e : a' = a
    · subst e; exact ⟨hc, i2, i3⟩
    · exact ⟨i1.kept (hq _ (fun q => e (h2 _ _ g1 g2 ha hac q))) (fun k' => zsv_congr (hσ a' k' e)), i2, i3⟩
  · rw [h0]; exact h2
  · rw [h0] at g2
    by_cases e : a' = a
    · subst e; exact hk k' g3 g4
    · exact zsk_congr (hσ a' k' e) h0 (h3 a' k' g1 g2 g3 g4)
  · rw [h0] at g
    rw [hσ a' k' (by omega)]
    exact h4 a' k' g
/-- many more objects -/
theorem zWo_grow {w : zW} {D : va_G} {B0 : Nat} {ad ad' : Int → Nat} {ca ca' : Int → ClassId} {σ σ' : zMem} {s : State} {H H' : Heap} {k : Nat} (hW : zWo w D B0 ad ca σ s H) (hB : B0 ≤ H.size) (h0 : σ' 0 0 = σ 0 0 + k) (hold : ∀ q, q < H.size → H'[q]? = H[q]?)
    (hsame : ∀ a i, 0 < a → a < σ 0 0 → σ' a i = σ a i) (had : ∀ a : Int, a < σ 0 0 → ad' a = ad a) (hca : ∀ a : Int, a < σ 0 0 → ca' a = ca a) (hadn : ∀ a : Int, σ 0 0 ≤ a → a < σ 0 0 + k → ad' a = H.size + (a - σ 0 0).toNat)
    (hnew : ∀ a : Int, σ 0 0 ≤ a → a < σ 0 0 + k → zce w D ad' ca' σ' a H' ∧ 0 < (zK w a).1 ∧ (13 < (zK w a).1 → zaK s (ca' a) (zK w a).1) ∧ ∀ i : Int, 0 ≤ i → i < (zK w a).2 → zsk w σ' a i) (hz : ∀ a i : Int, σ 0 0 + k ≤ a → σ' a i = 0) : zWo w D B0 ad' ca' σ' s H' := by
  obtain ⟨h1, h2, h3, h4, h5, h6⟩ := hW
  have hup : ∀ a i : Int, 0 < a → a < σ 0 0 → zsk w σ a i → zsk w σ' a i := by
    intro a i q q2 hk
    unfold zsk at hk ⊢
    rw [hsame a i q q2, h0]
    generalize zty w a i = t at hk ⊢
    rcases t with _ | _ | _ | _ | _ | _ | _ | _ | t
    · exact hk
    · exact hk
    · exact hk
    · intro z
      have h7 : σ a i = 1 → zvr w (σ 0 0) (zR w a i) (ztg w a i) := hk
      obtain ⟨g1, g2, g3⟩ := h7 z
      exact ⟨g1, g2, by omega⟩
    · exact hk
    · exact hk
    · exact hk
    · have h7 : zvr w (σ 0 0) (σ a i) (22, 4096) := hk
      obtain ⟨g1, g2, g3⟩ := h7
      exact ⟨g1, g2, by omega⟩
    · exact hk
  have hzs : ∀ a i : Int, 0 < a → a < σ 0 0 → zsk w σ a i → zsv w ad' σ' a i = zsv w ad σ a i := by
    intro a i q q2 hk
    unfold zsk at hk
    unfold zsv
    rw [hsame a i q q2]
    generalize zty w a i = t at hk ⊢
    split
    · rfl
    · split
      · rename_i e
        have h7 : σ a i = 1 → zvr w (σ 0 0) (zR w a i) (ztg w a i) := hk
        rw [had _ (h7 e).2.2]
      · rfl
    · have h7 : zvr w (σ 0 0) (σ a i) (22, 4096) := hk
      rw [had _ h7.2.2]
    · rfl
  refine ⟨fun a g1 g2 => ?_, fun a a' g1 g2 g3 g4 e => ?_, fun a i g1 g2 g3 g4 => ?_, fun a i g => ?_, by rw [h0]; omega, fun a g1 g2 => ?_⟩
  · rw [h0] at g2
    by_cases e : a < σ 0 0
    · obtain ⟨i1, i2, i3⟩ := h1 a g1 e
      rw [had a e, hca a e]
      exact ⟨i1.kept2 g1 (h6 a g1 e) (had a e) (hca a e) (hold _ (zce_lt i1)) (fun i q1 q2 => hzs a i g1 e (h3 a i g1 e q1 q2)), i2, i3⟩
    · obtain ⟨n1, n2, n3, n4⟩ := hnew a (by omega) g2
      exact ⟨n1, by rw [hadn a (by omega) g2]; omega, n3⟩
  · rw [h0] at g2 g4
    have hlt : ∀ b : Int, 0 < b → b < σ 0 0 → ad b < H.size := fun b q1 q2 => zce_lt (h1 b q1 q2).1
    by_cases e1 : a < σ 0 0 <;> by_cases e2 : a' < σ 0 0
    · rw [had a e1, had a' e2] at e; exact h2 a a' g1 e1 g3 e2 e
    · rw [had a e1, hadn a' (by omega) g4] at e
      have := hlt a g1 e1
      omega
    · rw [had a' e2, hadn a (by omega) g2] at e
      have := hlt a' g3 e2
      omega
    · rw [hadn a (by omega) g2, hadn a' (by omega) g4] at e
      omega
  · rw [h0] at g2
    by_cases e : a < σ 0 0
    · exact hup a i g1 e (h3 a i g1 e g3 g4)
    · exact (hnew a (by omega) g2).2.2.2 i g3 g4
  · rw [h0] at g
    exact hz a i g
  · rw [h0] at g2
    by_cases e : a < σ 0 0
    · exact h6 a g1 e
    · exact (hnew a (by omega) g2).2.1
theorem zouter (cA : ClassId) (N h0 : Nat) : ∀ i : Nat, Jvm.Free.Multi.outerC cA N h0 i = arrV cA N (fun j => if j < i then .ref (h0 + 1 + j) else .null)
  | 0 => by
    show ({ cls := cA, slots := Array.replicate N .null, vm := .none } : Cell) = _
    rw [arrV_new]
    exact arrV_ext fun j _ => (if_neg (by omega)).symm
  | i + 1 => by
    show (Jvm.Free.Multi.outerC cA N h0 i).setSlot i (.ref (h0 + 1 + i)) = _
    rw [zouter cA N h0 i, arrV_store]
    refine arrV_ext fun j _ => ?_
    unfold updV
    by_cases e : j = i
    · subst e; rw [if_pos rfl, if_pos (by omega)]
    · rw [if_neg e]
      show (if j < i then Value.ref (h0 + 1 + j) else Value.null) = _
      by_cases h : j < i
      · rw [if_pos h, if_pos (by omega)]
      · rw [if_neg h, if_neg (by omega)]
theorem zfill_at (m : zMem) (a : Int) (f : Int → Int) : ∀ (n : Nat) (a' k : Int), a ≠ 0 → zfill zup m a f n a' k = if a' = a ∧ 0 ≤ k ∧ k < n then f k else m a' k
  | 0, a', k, _ => by
    rw [zfill, if_neg (by omega)]
  | n + 1, a', k, h => by
    rw [zfill]
    by_cases e : a' = a ∧ k = n
    · obtain ⟨rfl, rfl⟩ := e
      rw [zup_s h, if_pos ⟨rfl, by omega, by omega⟩]
    · rw [zup_n e, zfill_at m a f n a' k h]
      by_cases e2 : a' = a ∧ 0 ≤ k ∧ k < n
      · rw [if_pos e2, if_pos ⟨e2.1, e2.2.1, by omega⟩]
      · rw [if_neg e2, if_neg (by omega)]
section
variable {p : Program} {l : Launch} {e : Env} {R : Room} {s : State} {m : MethodId} {args : Array Value} {below : List Frame} {meth : Method} {c : Code} {H : Heap} {locs : List Loc} {cells slots : Nat} {Q : State → Prop}
variable {w : zW} {D : va_G} {B0 : Nat} {ad : Int → Nat} {ca : Int → ClassId} {σ : zMem} {b : ByteArray} {pc : Nat} {lsC : Array Slot} {rest : List Value} {A : Nat → Prop} {H0 : Heap}
set_option maxRecDepth 100000 in
theorem zw_cpy1 : Jvm.Cond.native arraycopyName ∈ lw_tbl := zsub_2 (List.mem_of_getElem? (i := 131) rfl)
set_option maxRecDepth 100000 in
theorem zw_cpy2 : Jvm.Cond.static arraycopyName ∈ lw_tbl := zsub_2 (List.mem_of_getElem? (i := 130) rfl)
set_option maxRecDepth 100000 in
theorem zw_cpy3 : Jvm.Cond.initialized "java/lang/System" ∈ lw_tbl := zsub_1 (List.mem_of_getElem? (i := 13) rfl)
theorem zh_cpy {q : Nat × Nat} {cc a bb n1 n2 sp dp n : Int} (hq : zcpyOK q) (hx : p.tables.exec = Jvm.exec) (hb : c.code = b) (hml : c.maxLocals = lsC.size) (hts : ∀ w ∈ lw_tk, w.before args s = true) (hW : zWo w D B0 ad ca σ s H) (hS : va_S A H0 H locs) (hown : s.vm.findClass (zcnOf q.1) = some m.cls)
    (hcc : cc = 20 ∨ cc = 21) (ha : 0 < a) (hac : a < σ 0 0) (hk : zK w a = (cc, n1)) (hbb : 0 < bb) (hbc : bb < σ 0 0) (hk2 : zK w bb = (cc, n2)) (hA : A (ad bb)) (csp : zc32 sp) (cdp : zc32 dp) (cn : zc32 n) (h1 : 0 ≤ n) (h2 : 0 ≤ sp) (h3 : 0 ≤ dp) (h4 : sp + n ≤ n1) (h5 : dp + n ≤ n2)
    (hframes : 1 ≤ R.frames) (hlocals : (rest.map fun v => v.category).sum + (nativeFrameWords "java/lang/System" "arraycopy" 5 + 11) ≤ R.locals) (hd : decode b pc = .ok (.invokestatic q.2, 3))
    (kk : ∀ (H1 : Heap) (locs1 : List Loc), zWo w D B0 ad ca (zfc σ a sp bb dp n) s H1 → va_S A H0 H1 locs1 → W p l e R s m args below meth c H1 locs1 cells slots Q (F0 m (pc + 3) lsC rest)) :
    W p l e R s m args below meth c H locs cells slots Q (F0 m pc lsC (.int (Int32.ofInt n) :: .int (Int32.ofInt dp) :: .ref (ad bb) :: .int (Int32.ofInt sp) :: .ref (ad a) :: rest)) := by
  obtain ⟨hc0, hK0⟩ := zarr hW ha hac hk (by omega)
  obtain ⟨hc1, hK1⟩ := zarr hW hbb hbc hk2 (by omega)
  have nn : ∀ {z : Int}, zc32 z → 0 ≤ z → ¬ Int32.ofInt z < 0 := fun hz h0 q => by have := (zi_lt hz zc32_0).mp q; omega
  have hvok : ∀ i : Nat, i < n.toNat → zsk w σ a (sp.toNat + i : Nat) := fun i hi => hW.2.2.1 a _ ha hac (by omega) (by rw [hk]; show ((sp.toNat + i : Nat) : Int) < n1; omega)
  have hpr : refKind (zaty cc) = false := by rcases hcc with rfl | rfl <;> rfl
  have hfits : ∀ k : Int, fits (zaty cc) (zsv w ad σ a k) = true ∧ ∀ (U : State) (dc : ClassId), U.takes dc (zsv w ad σ a k) := by
    intro k
    unfold zsv
    rcases hcc with rfl | rfl
    · rw [zty20 hk]; exact ⟨rfl, fun _ _ => trivial⟩
    · rw [zty21 hk]; exact ⟨rfl, fun _ _ => trivial⟩
  intro T hT X
  obtain ⟨-, k0, hk0, cm0, hkk0⟩ := hK0.1 n1.toNat (fun j => zsv w ad σ a j)
  obtain ⟨-, k1, hk1, cm1, hkk1⟩ := hK1.1 n2.toNat (fun j => zsv w ad σ bb j)
  obtain ⟨vm', X', step⟩ := X.arraycopy hx hown (hts _ (zin hq rfl)) (hts _ (zin zw_cpy1 rfl)) (hts _ (zin zw_cpy2 rfl)) (hts _ (zin zw_cpy3 rfl)) (src := ad a) (dst := ad bb) (cs := arrV (ca a) n1.toNat (fun j => zsv w ad σ a j)) (cd := arrV (ca bb) n2.toNat (fun j => zsv w ad σ bb j)) (srcPos := Int32.ofInt sp) (destPos := Int32.ofInt dp) (n := Int32.ofInt n) (by rw [hT]; exact hc0) (by rw [hT]; exact hc1)
    (fun _ h => by cases h) (fun _ h => by cases h) (fun h => by cases h) (fun h => by cases h) hk0 hk1 hkk0 hkk1 (by simp [hpr]) (nn csp h2) (nn cdp h3) (nn cn h1)
    (by rw [zt_i csp, zt_i cn, arrV_size]; omega)
    (by rw [zt_i cdp, zt_i cn, arrV_size]; omega)
    (fun vm₁ _ i hi => by
      rw [zi_nat cn h1] at hi
      have e : (arrV (ca a) n1.toNat (fun j => zsv w ad σ a j)).slots.getD ((Int32.ofInt sp).toNatClampNeg + i) .null = zsv w ad σ a ((sp.toNat + i : Nat) : Int) := by
        rw [zi_nat csp h2, Array.getD_eq_getD_getElem?, arrV_read _ _ (by omega)]
        rfl
      rw [e]
      exact ⟨(hfits _).1, (hfits _).2 _ _⟩)
    (g := F0 m pc lsC (.int (Int32.ofInt n) :: .int (Int32.ofInt dp) :: .ref (ad bb) :: .int (Int32.ofInt sp) :: .ref (ad a) :: rest)) rfl (by rw [hml]) (rest := rest) rfl (by rw [hb]; exact hd) hframes (by show 2 * 0 + _ + _ ≤ _; omega)
  have e1 : copied (arrV (ca a) n1.toNat (fun j => zsv w ad σ a j)) (arrV (ca bb) n2.toNat (fun j => zsv w ad σ bb j)) (Int32.ofInt sp) (Int32.ofInt dp) (Int32.ofInt n) = arrV (ca bb) n2.toNat (fun j => zsv w ad (zfc σ a sp bb dp n) bb j) := by
    refine (va_copied (fun z : Value => z) (ca a) (ca bb) (n0 := n1.toNat) (n1 := n2.toNat) (sp := (Int32.ofInt sp).toNatClampNeg) (dp := (Int32.ofInt dp).toNatClampNeg) (n := (Int32.ofInt n).toNatClampNeg) (fun j => zsv w ad σ a j) (fun j => zsv w ad σ bb j) (by rw [zi_nat csp h2, zi_nat cn h1]; omega)).trans ?_
    refine arrV_ext fun j hj => ?_
    rw [zi_nat csp h2, zi_nat cn h1, zi_nat cdp h3]
    unfold va_cpy
    have hb0 : bb ≠ 0 := by omega
    have hty : ∀ k1 k2 : Int, zty w a k1 = zty w bb k2 := fun k1 k2 => by rcases hcc with rfl | rfl <;> first | rw [zty20 hk, zty20 hk2] | rw [zty21 hk, zty21 hk2]
    have hnr : ∀ k1 : Int, zty w bb k1 = 1 ∨ zty w bb k1 = 2 := fun k1 => by rcases hcc with rfl | rfl <;> first | exact Or.inl (zty20 hk2) | exact Or.inr (zty21 hk2)
    by_cases q1 : dp.toNat ≤ j ∧ j < dp.toNat + n.toNat
    · rw [if_pos q1]
      have e3 : zfc σ a sp bb dp n bb j = σ a ((sp.toNat + (j - dp.toNat) : Nat) : Int) := by
        unfold zfc
        rw [if_pos ⟨hb0, rfl, by omega, by omega⟩]
        congr 1
        omega
      show zsv w ad σ a ((sp.toNat + (j - dp.toNat) : Nat) : Int) = zsv w ad (zfc σ a sp bb dp n) bb j
      unfold zsv
      rw [e3, hty _ (j : Int)]
      rcases hnr (j : Int) with q | q <;> (rw [q]; try rfl)
    · rw [if_neg q1]
      refine (zsv_congr ?_).symm
      unfold zfc
      rw [if_neg (by omega)]
  rw [e1] at X' step
  have hl : ad bb < H.size := (Array.getElem?_eq_some_iff.mp hc1).1
  have hheap : ((T.setVm vm').setCell (ad bb) (arrV (ca bb) n2.toNat (fun j => zsv w ad (zfc σ a sp bb dp n) bb j))).heap = H.setIfInBounds (ad bb) (arrV (ca bb) n2.toNat (fun j => zsv w ad (zfc σ a sp bb dp n) bb j)) := by rw [← hT]; rfl
  have oq : ∀ q : Nat, q ≠ ad bb → (H.setIfInBounds (ad bb) (arrV (ca bb) n2.toNat (fun j => zsv w ad (zfc σ a sp bb dp n) bb j)))[q]? = H[q]? := fun q hq => by simp [Array.getElem?_setIfInBounds, Ne.symm hq]
  obtain ⟨t, a1, b1⟩ := kk _ _ (zWo_obj hW hbb hbc (fun a' k' q => by unfold zfc; rw [if_neg (fun z => q z.2.1)]) oq (by
      unfold zce
      rw [hk2, if_neg (by show ¬ cc ≤ 13; omega)]
      show (H.setIfInBounds (ad bb) _)[ad bb]? = _
      simp [Array.getElem?_setIfInBounds, hl]) (fun k q1 q2 => by
      have hb0 : bb ≠ 0 := by omega
      have hty : zty w a (sp + (k - dp)) = zty w bb k := by rcases hcc with rfl | rfl <;> first | rw [zty20 hk, zty20 hk2] | rw [zty21 hk, zty21 hk2]
      have hnr : zty w bb k = 1 ∨ zty w bb k = 2 := by rcases hcc with rfl | rfl <;> first | exact Or.inl (zty20 hk2) | exact Or.inr (zty21 hk2)
      by_cases q3 : dp ≤ k ∧ k < dp + n
      · have e3 : zfc σ a sp bb dp n bb k = σ a (sp + (k - dp)) := by
          unfold zfc
          rw [if_pos ⟨hb0, rfl, q3.1, q3.2⟩]
        have h7 : zsk w σ a (sp + (k - dp)) := hW.2.2.1 a _ ha hac (by omega) (by rw [hk]; show sp + (k - dp) < n1; omega)
        unfold zsk at h7 ⊢
        rw [hty] at h7
        rw [e3]
        rcases hnr with q | q <;> rw [q] at h7 ⊢ <;> exact h7
      · refine zsk_congr ?_ ?_ (hW.2.2.1 bb k hbb hbc q1 q2)
        · unfold zfc; rw [if_neg (by omega)]
        · unfold zfc; rw [if_neg (by omega)]))
    ⟨by simp; exact hS.1, fun q g1 g2 => by
      rw [oq q (fun e => g2 (by rw [e]; exact hA))]
      exact hS.2.1 q g1 g2, fun q hq => by
      rcases List.mem_append.mp hq with h | h
      · exact hS.2.2 q h
      · obtain ⟨z, -, hz⟩ := List.mem_map.mp h
        rw [← hz]
        exact hA⟩ _ hheap X'
  exact ⟨t, step t a1, b1⟩
set_option maxRecDepth 100000 in
theorem zw_mna1 : Jvm.Cond.classLink "RaysOfShapesModel" 23 ("[" ++ (FieldType.array .boolean).toString) ∈ lw_tbl := by
  rw [show ("[" ++ (FieldType.array .boolean).toString) = "[[Z" by decide +kernel]
  exact zsub_6 (List.mem_of_getElem? (i := 58) rfl)
set_option maxRecDepth 100000 in
theorem zw_mna2 : Jvm.Cond.arrayOver (.array .boolean) ∈ lw_tbl := zsub_6 (List.mem_of_getElem? (i := 59) rfl)
set_option maxRecDepth 100000 in
theorem zw_arrZ : Jvm.Cond.arrayClass .boolean ∈ lw_tbl := zsub_6 (List.mem_of_getElem? (i := 172) rfl)
set_option maxRecDepth 100000 in
theorem zw_arrI : Jvm.Cond.arrayClass .int ∈ lw_tbl := zsub_1 (List.mem_of_getElem? (i := 60) rfl)
set_option maxRecDepth 100000 in
theorem zw_arrJ : Jvm.Cond.arrayClass .long ∈ lw_tbl := zsub_1 (List.mem_of_getElem? (i := 77) rfl)
theorem zh_mna {cc x y : Int} (hcc : cc = 32 ∨ cc = 33) (hx : p.tables.exec = Jvm.exec) (hb : c.code = b) (hts : ∀ w ∈ lw_tk, w.before args s = true) (hW : zWo w D B0 ad ca σ s H) (hS : va_S A H0 H locs) (hB : B0 ≤ H.size) (hown : s.vm.findClass "RaysOfShapesModel" = some m.cls)
    (hk : zK w (σ 0 0) = (cc, x)) (hki : ∀ j : Nat, j < x.toNat → zK w (σ 0 0 + 1 + (j : Nat)) = (22, y) ∧ (cc = 33 ∨ zR w (σ 0 0) (j : Nat) = σ 0 0 + 1 + (j : Nat))) (hcells : cells + (1 + x.toNat) ≤ R.cells) (hslots : slots + (x.toNat + x.toNat * y.toNat) ≤ R.slots) (hd : decode b pc = .ok (.multianewarray 23 2, 4))
    (kk : ∀ (H1 : Heap) (ad1 : Int → Nat) (ca1 : Int → ClassId), (∀ a : Int, a < σ 0 0 → ad1 a = ad a) → ad1 (σ 0 0) = H.size → zWo w D B0 ad1 ca1 (zup (zfill zup σ (σ 0 0) (fun j => if cc = 33 then σ 0 0 + 1 + j else 1) x.toNat) 0 0 (σ 0 0 + 1 + x)) s H1 → va_S A H0 H1 locs → H.size ≤ H1.size →
      W p l e R s m args below meth c H1 locs (cells + 1 + x.toNat) (slots + x.toNat + x.toNat * y.toNat) Q (F0 m (pc + 4) lsC (.ref H.size :: rest))) : W p l e R s m args below meth c H locs cells slots Q (F0 m pc lsC (.int (Int32.ofInt y) :: .int (Int32.ofInt x) :: rest)) := by
  have hn0 : 1 ≤ σ 0 0 := hW.2.2.2.2.1
  have hL := zK_len (w := w) (a := σ 0 0) (by omega)
  rw [hk] at hL
  have hx0 : 0 < x := hL.2.2.1 hcc
  have hx1 : x ≤ 65536 := hL.2.1
  have hL2 := zK_len (w := w) (a := σ 0 0 + 1 + ((0 : Nat) : Int)) (by omega)
  rw [(hki 0 (by omega)).1] at hL2
  have hy0 : 0 ≤ y := hL2.1
  have hy1 : y ≤ 65536 := hL2.2.1
  have hy4 : y = 4096 := hL2.2.2.2 rfl
  have cx : zc32 x := ⟨by omega, by omega⟩
  have cy : zc32 y := ⟨by omega, by omega⟩
  have nx := zi_nat cx (by omega)
  have ny := zi_nat cy hy0
  have nn : ∀ {z : Int}, zc32 z → 0 ≤ z → ¬ Int32.ofInt z < 0 := fun hz h0 q => by have := (zi_lt hz zc32_0).mp q; omega
  intro T hT Xs
  obtain ⟨vm₁, cA, comp, -, fA, fC, hO, hI, X', step⟩ := Xs.multianewarray2F hx hown (hts _ (zin zw_mna1 rfl)) (hts _ (zin zw_mna2 rfl)) (hts _ (zin zw_arrZ rfl)) (g := F0 m pc lsC (.int (Int32.ofInt y) :: .int (Int32.ofInt x) :: rest)) rfl (by rw [hb]; exact hd) rfl (nn cx (by omega)) (nn cy hy0) (by rw [nx]; omega)
    (by rw [ny]; show y.toNat * 1 ≤ _; omega) (by rw [ny]; omega) rfl rfl (by rw [nx]; exact hcells) (by rw [nx, ny]; exact hslots)
  obtain ⟨comp2, c2, k2, g1, -, g2, g3, g4⟩ := arrayOverA_spec (hts _ (zin zw_mna2 rfl))
  have ec : comp2 = comp := Option.some.inj (g1.symm.trans fC)
  have eA : c2 = cA := Option.some.inj (g4.symm.trans fA)
  subst ec
  subst eA
  have fC' : s.vm.findClass "[Z" = some comp2 := fC
  rw [nx, ny] at X' step
  generalize hF : Jvm.Free.Multi.fill (T.setVm vm₁) c2 comp2 x.toNat y.toNat (defaultValue .boolean) x.toNat = F at X' step
  have hTh : (T.setVm vm₁).heap = H := hT
  obtain ⟨f1, f2, -, -⟩ := Jvm.Free.Multi.fill_facts (T.setVm vm₁) c2 comp2 x.toNat y.toNat (defaultValue .boolean) x.toNat
  rw [hF, hTh] at f1 f2
  have hold : ∀ q : Nat, q < H.size → F.heap[q]? = H[q]? := fun q hq => by
    have := Jvm.Free.Multi.fill_old (T.setVm vm₁) c2 comp2 x.toNat y.toNat (defaultValue .boolean) (a := q) (by rw [hTh]; exact hq) x.toNat
    rw [hF, hTh] at this
    exact this
  have hrow : ∀ j : Nat, j < x.toNat → F.heap[H.size + 1 + j]? = some (arrV comp2 y.toNat (fun _ => .int 0)) := fun j hj => by
    have := Jvm.Free.Multi.fill_inner (T.setVm vm₁) c2 comp2 x.toNat y.toNat (defaultValue .boolean) x.toNat j hj
    rw [hF, hTh] at this
    rw [this]
    show some ({ cls := comp2, slots := Array.replicate y.toNat (defaultValue .boolean), vm := .none } : Cell) = _
    rw [arrV_new]
    rfl
  rw [zouter] at f2
  have hAr1 : ArrOfT s c2 (.array .boolean) := fun N9 z9 => by
    obtain ⟨-, k9, hk9, cm9, hkk9⟩ := (hO 0 0 0).1
    exact ⟨(fun q hq => by cases hq), k9, hk9, cm9, hkk9⟩
  have hAr2 : ArrOfT s comp2 .boolean := fun N9 z9 => by
    obtain ⟨-, k9, hk9, cm9, hkk9⟩ := (hI 0 .null).1
    exact ⟨(fun q hq => by cases hq), k9, hk9, cm9, hkk9⟩
  let σ1 : zMem := zup (zfill zup σ (σ 0 0) (fun j => if cc = 33 then σ 0 0 + 1 + j else 1) x.toNat) 0 0 (σ 0 0 + 1 + x)
  have hfa : ∀ a k : Int, a ≠ 0 → σ1 a k = if a = σ 0 0 ∧ 0 ≤ k ∧ k < x.toNat then (if cc = 33 then σ 0 0 + 1 + k else 1) else σ a k := fun a k q => by
    show zup _ 0 0 _ a k = _
    rw [zup_n (fun z => q z.1), zfill_at _ _ _ _ _ _ (by omega)]
  have hf0 : σ1 0 0 = σ 0 0 + (1 + x.toNat : Nat) := by
    show zup _ 0 0 _ 0 0 = _
    have e0 : zfill zup σ (σ 0 0) (fun j => if cc = 33 then σ 0 0 + 1 + j else 1) x.toNat 0 0 = σ 0 0 := by
      rw [zfill_at _ _ _ _ _ _ (by omega), if_neg (by omega)]
    rw [zup_0 (by rw [e0]; omega)]
    omega
  have hz : ∀ a k : Int, σ 0 0 ≤ a → σ a k = 0 := hW.2.2.2.1
  have hwo : zWo w D B0 (fun a => if σ 0 0 ≤ a then H.size + (a - σ 0 0).toNat else ad a) (fun a => if a = σ 0 0 then c2 else if σ 0 0 ≤ a then comp2 else ca a) σ1 s F.heap := by
    refine zWo_grow (k := 1 + x.toNat) hW hB hf0 hold (fun a i q1 q2 => ?_) (fun a q => if_neg (by omega)) (fun a q => ?_) (fun a q1 q2 => if_pos q1) (fun a q1 q2 => ?_) (fun a i q => ?_)
    · rw [hfa a i (by omega), if_neg (by omega)]
    · show (if a = σ 0 0 then c2 else if σ 0 0 ≤ a then comp2 else ca a) = _
      rw [if_neg (by omega), if_neg (by omega)]
    · by_cases e0 : a = σ 0 0
      · subst e0
        have h30 : (30 : Int) ≤ cc := by omega
        have hsl : ∀ i : Int, 0 ≤ i → i < x → zsv w (fun a => if σ 0 0 ≤ a then H.size + (a - σ 0 0).toNat else ad a) σ1 (σ 0 0) i = .ref (H.size + 1 + i.toNat) ∧ zsk w σ1 (σ 0 0) i := by
          intro i i0 i1
          have e1 : σ1 (σ 0 0) i = if cc = 33 then σ 0 0 + 1 + i else 1 := by
            rw [hfa _ _ (by omega), if_pos ⟨rfl, i0, by omega⟩]
          have hki2 := hki i.toNat (by omega)
          rw [show ((i.toNat : Nat) : Int) = i by omega] at hki2
          unfold zsv zsk
          rw [e1, hf0]
          rcases hcc with rfl | rfl
          · rw [zty3 hk (by decide) (by decide), if_neg (by decide)]
            have hr : zR w (σ 0 0) i = σ 0 0 + 1 + i := by
              rcases hki2.2 with q | q
              · exact absurd q (by decide)
              · exact q
            refine ⟨?_, fun _ => ?_⟩
            · show (if (1 : Int) = 1 then Value.ref (if σ 0 0 ≤ zR w (σ 0 0) i then H.size + (zR w (σ 0 0) i - σ 0 0).toNat else ad (zR w (σ 0 0) i)) else Value.null) = _
              rw [if_pos rfl, hr, if_pos (by omega)]
              exact congrArg Value.ref (zo_a _ _ _ i0)
            · refine ⟨?_, by omega, by omega⟩
              rw [hr, hki2.1]
              unfold ztg
              rw [hk, if_neg (show ¬ (32 : Int) ≤ 13 by decide), hy4]
              rfl
          · rw [zty33 hk, if_pos rfl]
            refine ⟨?_, by rw [hki2.1, hy4], by omega, by omega⟩
            show Value.ref (if σ 0 0 ≤ σ 0 0 + 1 + i then H.size + (σ 0 0 + 1 + i - σ 0 0).toNat else ad (σ 0 0 + 1 + i)) = _
            rw [if_pos (by omega)]
            exact congrArg Value.ref (zo_a _ _ _ i0)
        refine ⟨?_, by rw [hk]; show 0 < cc; omega, fun _ => ?_, fun i i0 i1 => ?_⟩
        · unfold zce
          rw [hk, if_neg (by show ¬ cc ≤ 13; omega)]
          show F.heap[if σ 0 0 ≤ σ 0 0 then H.size + (σ 0 0 - σ 0 0).toNat else ad (σ 0 0)]? = some (arrV (if σ 0 0 = σ 0 0 then c2 else if σ 0 0 ≤ σ 0 0 then comp2 else ca (σ 0 0)) x.toNat _)
          rw [if_pos (Int.le_refl _), if_pos rfl, show H.size + (σ 0 0 - σ 0 0).toNat = H.size by omega, f2]
          congr 1
          refine arrV_ext fun j hj => ?_
          rw [if_pos hj, (hsl j (by omega) (by omega)).1]
          congr 1
        · show zaK s (if σ 0 0 = σ 0 0 then c2 else if σ 0 0 ≤ σ 0 0 then comp2 else ca (σ 0 0)) _
          rw [if_pos rfl, hk]
          have et : zaty cc = .array .boolean := by rcases hcc with rfl | rfl <;> rfl
          have en : zcompN cc = "[Z" := by rcases hcc with rfl | rfl <;> rfl
          refine ⟨?_, fun z => absurd (show cc = 22 from z) (by omega), fun _ => ⟨k2, comp2, g2, ?_, ?_⟩⟩
          · show ArrOfT s c2 (zaty cc); rw [et]; exact hAr1
          · show k2.kind = .array comp2 (zaty cc); rw [et]; exact g3
          · show s.vm.findClass (zcompN cc) = some comp2; rw [en]; exact fC'
        · rw [hk] at i1
          exact (hsl i i0 i1).2
      · obtain ⟨j, hj⟩ : ∃ j : Nat, a = σ 0 0 + 1 + (j : Nat) := ⟨(a - σ 0 0 - 1).toNat, by omega⟩
        have hj2 : j < x.toNat := by omega
        have hka := (hki j hj2).1
        rw [← hj] at hka
        have hza : ∀ i : Int, σ1 a i = 0 := fun i => by rw [hfa a i (by omega), if_neg (by omega)]; exact hz a i (by omega)
        refine ⟨?_, by rw [hka]; show (0 : Int) < 22; decide, fun _ => ?_, fun i i0 i1 => ?_⟩
        · unfold zce
          rw [hka, if_neg (by show ¬ (22 : Int) ≤ 13; decide)]
          show F.heap[if σ 0 0 ≤ a then H.size + (a - σ 0 0).toNat else ad a]? = some (arrV (if a = σ 0 0 then c2 else if σ 0 0 ≤ a then comp2 else ca a) y.toNat _)
          rw [if_pos (by omega), if_neg e0, if_pos (by omega), show H.size + (a - σ 0 0).toNat = H.size + 1 + j by omega, hrow j hj2]
          congr 1
          refine arrV_ext fun i hi => ?_
          unfold zsv
          rw [zty22 hka, hza]
          rfl
        · show zaK s (if a = σ 0 0 then c2 else if σ 0 0 ≤ a then comp2 else ca a) _
          rw [if_neg e0, if_pos (by omega), hka]
          exact ⟨hAr2, fun _ => fC', fun z => absurd (show (30 : Int) ≤ 22 from z) (by decide)⟩
        · unfold zsk
          rw [zty22 hka, hza]
          exact ⟨by decide, by decide⟩
    · rw [hfa a i (by omega), if_neg (by omega)]
      exact hz a i (by omega)
  obtain ⟨t, a1, b1⟩ := kk F.heap _ _ (fun a q => if_neg (by omega)) (by show (if σ 0 0 ≤ σ 0 0 then H.size + (σ 0 0 - σ 0 0).toNat else ad (σ 0 0)) = H.size; rw [if_pos (Int.le_refl _)]; omega) hwo ⟨by rw [f1]; have := hS.1; omega, fun q h1 h2 => (hold q (Nat.lt_of_lt_of_le h1 hS.1)).trans (hS.2.1 q h1 h2), hS.2.2⟩ (by rw [f1]; omega) F rfl X'
  refine ⟨t, step t ?_, b1⟩
  rw [show T.heap.size = H.size by rw [hT]]
  exact a1
end
