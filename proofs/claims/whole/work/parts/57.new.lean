/-! Objects are made -/
theorem zfd_all : ((List.range 13).all fun c => match znth zcl c with
    | some r => (List.range r.2.2).all fun k => match zfind ((c : Int) + 1) k with
      | some q => decide (q ∈ zfds) && decide (q.1 = c + 1) && decide (q.2.1 = k) && decide (q.2.2.1 = 1 ∨ q.2.2.1 = 2 ∨ q.2.2.1 = 3 ∨ q.2.2.1 = 6)
      | none => false
    | none => false) = true := by decide +kernel
theorem zfd_get {c k : Nat} {r : vw_C} (h : znth zcl c = some r) (hk : k < r.2.2) : ∃ q : Nat × Nat × Nat × Int × Int × Bool, zfind ((c : Int) + 1) k = some q ∧ q ∈ zfds ∧ q.1 = c + 1 ∧ q.2.1 = k ∧ (q.2.2.1 = 1 ∨ q.2.2.1 = 2 ∨ q.2.2.1 = 3 ∨ q.2.2.1 = 6) := by
  have h1 := List.all_eq_true.mp zfd_all c (List.mem_range.mpr (znth_len h))
  rw [h] at h1
  have h2 := List.all_eq_true.mp h1 k (List.mem_range.mpr hk)
  cases hq : zfind ((c : Int) + 1) k with
  | none => rw [hq] at h2; cases h2
  | some q =>
    rw [hq] at h2
    simp only [Bool.and_eq_true, decide_eq_true_eq] at h2
    exact ⟨q, rfl, h2.1.1.1, h2.1.1.2, h2.1.2, h2.2⟩
/-- an object's fresh slots -/
theorem zsv_fresh {w : zW} {ad : Int → Nat} {σ : zMem} {a : Int} {c k : Nat} {n : Int} {r : vw_C} {t : FieldType} (hk : zK w a = ((c : Int) + 1, n)) (hc : c < 13) (h : znth zcl c = some r) (hkr : k < r.2.2) (ht : parseFieldDescriptor (r.2.1 k).2.2.1 = some t) (h0 : σ a k = 0) :
    zsv w ad σ a k = defaultValue t ∧ zsk w σ a k := by
  obtain ⟨q, h1, h2, h3, h4, h5⟩ := zfd_get h hkr
  obtain ⟨r2, g1, g2, g3, ⟨t2, g4, g5⟩, g6⟩ := zfds_ok q h2
  rw [h3, Nat.add_sub_cancel, h] at g1
  cases g1
  rw [h4, ht] at g4
  cases g4
  have hty : zty w a k = q.2.2.1 := by
    unfold zty
    rw [hk, if_pos (by show (c : Int) + 1 ≤ 13; omega)]
    show (match zfind ((c : Int) + 1) k with | some q => q.2.2.1 | none => 0) = _
    rw [h1]
  unfold zsv zsk
  rw [hty, h0]
  rcases h5 with e | e | e | e <;> rw [e] at g5 ⊢
  · have g5 : t = .int := g5
    subst g5
    exact ⟨rfl, zc32_0⟩
  · have g5 : t = .long := g5
    subst g5
    exact ⟨rfl, zc64_0⟩
  · have g5 : t.isReference = true := g5
    refine ⟨?_, fun z => absurd z (by decide)⟩
    show (if (0 : Int) = 1 then Value.ref (ad (zR w a k)) else Value.null) = _
    rw [if_neg (by decide)]
    cases t <;> first | rfl | cases g5
  · have g5 : t = .boolean := g5
    subst g5
    exact ⟨rfl, by decide, by decide⟩
section
variable {p : Program} {l : Launch} {e : Env} {R : Room} {s : State} {m : MethodId} {args : Array Value} {below : List Frame} {meth : Method} {c : Code} {H : Heap} {locs : List Loc} {cells slots : Nat} {Q : State → Prop}
variable {w : zW} {D : va_G} {B0 : Nat} {ad : Int → Nat} {ca : Int → ClassId} {σ : zMem} {b : ByteArray} {pc : Nat} {lsC : Array Slot} {rest : List Value} {A : Nat → Prop} {H0 : Heap}
theorem zh_new {en : Nat × Nat × Nat × Nat} (he : zcnOK en) (hpos : 0 < en.2.2.2) (hx : p.tables.exec = Jvm.exec) (hb : c.code = b) (hts : ∀ w ∈ lw_tk, w.before args s = true) (hK : zKno s D) (hW : zWo w D B0 ad ca σ s H) (hS : va_S A H0 H locs) (hB : B0 ≤ H.size) (hown : s.vm.findClass (zcnOf en.1) = some m.cls)
    (hk : zK w (σ 0 0) = ((en.2.2.1 : Int), (en.2.2.2 : Int))) (hc13 : en.2.2.1 ≤ 13) (hcells : cells + 1 ≤ R.cells) (hslots : slots + en.2.2.2 ≤ R.slots) (hd : decode b pc = .ok (.new en.2.1, 3))
    (kk : ∀ (H1 : Heap), zWo w D B0 (zad1 ad (σ 0 0) H.size) (zad1 ca (σ 0 0) 0) (zup σ 0 0 (σ 0 0 + 1)) s H1 → va_S A H0 H1 locs → H.size ≤ H1.size → W p l e R s m args below meth c H1 locs (cells + 1) (slots + en.2.2.2) Q (F0 m (pc + 3) lsC (.ref H.size :: rest))) : W p l e R s m args below meth c H locs cells slots Q (F0 m pc lsC rest) := by
  obtain ⟨r, h1, h2, h3, h4, h5, h6⟩ := he
  have hKn := hK _ _ h1 (by omega)
  rw [← h3] at hslots kk
  refine W.newcK hx hb hown (hts _ (zin h4 rfl)) (hts _ (zin h5 rfl)) (hts _ (zin h6 rfl)) rfl hd hcells hslots hKn.2.1 rfl fun H1 kC hkC e1 z1 o1 => ?_
  obtain ⟨ty, hty⟩ := ztyx _ _ h1
  have ho := u_born ty hts (zclk_in _ _ h1) hKn hkC e1 hty
  have hk' : zK w (σ 0 0) = (((en.2.2.1 - 1 : Nat) : Int) + 1, (en.2.2.2 : Int)) := by rw [hk]; congr 1; omega
  have hz : ∀ k : Nat, zup σ 0 0 (σ 0 0 + 1) (σ 0 0) k = 0 := fun k => by
    have := hW.2.2.2.2.1
    rw [zup_n (fun q => by omega)]
    exact hW.2.2.2.1 _ _ (Int.le_refl _)
  refine kk H1 (zWo_push hW hB o1 ?_ (by rw [hk]; show 0 < (en.2.2.1 : Int); omega) (fun q => by rw [hk] at q; have : (13 : Int) < (en.2.2.1 : Int) := q; omega) ?_) ⟨Nat.le_trans hS.1 (by omega), fun x g1 g2 => (o1 x (Nat.lt_of_lt_of_le g1 hS.1)).trans (hS.2.1 x g1 g2), hS.2.2⟩ (by omega)
  · unfold zce
    rw [hk', if_pos (by show (((en.2.2.1 - 1 : Nat) : Int) + 1) ≤ 13; omega)]
    have ei : ((((en.2.2.1 - 1 : Nat) : Int) + 1, (en.2.2.2 : Int)).1 - 1).toNat = en.2.2.1 - 1 := by show ((((en.2.2.1 - 1 : Nat) : Int) + 1) - 1).toNat = _; omega
    rw [ei, zad1_s]
    exact ⟨r, h1, ho.to fun k hkr => (zsv_fresh hk' (znth_len h1) h1 hkr (hty k hkr) (hz k)).1.symm⟩
  · intro k q1 q2
    rw [hk] at q2
    have q2 : k < (en.2.2.2 : Int) := q2
    obtain ⟨n, rfl⟩ : ∃ n : Nat, k = (n : Int) := ⟨k.toNat, by omega⟩
    exact (zsv_fresh (ad := ad) hk' (znth_len h1) h1 (show n < r.2.2 by omega) (hty n (by omega)) (hz n)).2
theorem zh_newa20 {n : Int} (hx : p.tables.exec = Jvm.exec) (hb : c.code = b) (harr : (Jvm.Cond.arrayClass .int).before args s = true) (hW : zWo w D B0 ad ca σ s H) (hS : va_S A H0 H locs) (hB : B0 ≤ H.size)
    (hk : zK w (σ 0 0) = (20, n)) (hn : 0 ≤ n) (hn2 : n ≤ 65536) (hcells : cells + 1 ≤ R.cells) (hslots : slots + n.toNat ≤ R.slots) (hd : decode b pc = .ok (.newarray .int, 2))
    (kk : ∀ (H1 : Heap) (cA : ClassId), zWo w D B0 (zad1 ad (σ 0 0) H.size) (zad1 ca (σ 0 0) cA) (zup σ 0 0 (σ 0 0 + 1)) s H1 → va_S A H0 H1 locs → H.size ≤ H1.size → W p l e R s m args below meth c H1 locs (cells + 1) (slots + n.toNat) Q (F0 m (pc + 2) lsC (.ref H.size :: rest))) : W p l e R s m args below meth c H locs cells slots Q (F0 m pc lsC (.int (Int32.ofInt n) :: rest)) := by
  have hc : zc32 n := ⟨by omega, by omega⟩
  have hb8 : componentBytes (newarray.typeOf .int) ≤ 8 := by decide
  have hbt : n.toNat * componentBytes (newarray.typeOf .int) ≤ 536870912 := Nat.le_trans (Nat.mul_le_mul_left _ hb8) (by omega)
  refine va_newaK (atype := .int) hx hb harr rfl hd rfl (fun q => by have := (zi_lt hc zc32_0).mp q; omega) (zi_nat hc hn) hbt hcells hslots rfl fun H1 cA e1 z1 o1 hAr hNm => ?_
  have hz : ∀ k : Int, zup σ 0 0 (σ 0 0 + 1) (σ 0 0) k = 0 := fun k => by
    have := hW.2.2.2.2.1
    rw [zup_n (fun q => by omega)]
    exact hW.2.2.2.1 _ _ (Int.le_refl _)
  refine kk H1 cA (zWo_push hW hB o1 ?_ (by rw [hk]; show (0 : Int) < 20; decide) (fun q => ?_) ?_) ⟨Nat.le_trans hS.1 (by omega), fun x g1 g2 => (o1 x (Nat.lt_of_lt_of_le g1 hS.1)).trans (hS.2.1 x g1 g2), hS.2.2⟩ (by omega)
  · unfold zce
    rw [hk, if_neg (by show ¬ (20 : Int) ≤ 13; decide), zad1_s, zad1_s, e1]
    congr 1
    refine arrV_ext fun j hj => ?_
    unfold zsv
    rw [zty20 hk, hz]
    rfl
  · rw [hk]
    exact ⟨hAr, fun z => absurd (show (20 : Int) = 22 from z) (by decide), fun z => absurd (show (30 : Int) ≤ 20 from z) (by decide)⟩
  · intro k q1 q2
    unfold zsk
    rw [zty20 hk, hz]
    exact zc32_0
theorem zh_newa21 {n : Int} (hx : p.tables.exec = Jvm.exec) (hb : c.code = b) (harr : (Jvm.Cond.arrayClass .long).before args s = true) (hW : zWo w D B0 ad ca σ s H) (hS : va_S A H0 H locs) (hB : B0 ≤ H.size)
    (hk : zK w (σ 0 0) = (21, n)) (hn : 0 ≤ n) (hn2 : n ≤ 65536) (hcells : cells + 1 ≤ R.cells) (hslots : slots + n.toNat ≤ R.slots) (hd : decode b pc = .ok (.newarray .long, 2))
    (kk : ∀ (H1 : Heap) (cA : ClassId), zWo w D B0 (zad1 ad (σ 0 0) H.size) (zad1 ca (σ 0 0) cA) (zup σ 0 0 (σ 0 0 + 1)) s H1 → va_S A H0 H1 locs → H.size ≤ H1.size → W p l e R s m args below meth c H1 locs (cells + 1) (slots + n.toNat) Q (F0 m (pc + 2) lsC (.ref H.size :: rest))) : W p l e R s m args below meth c H locs cells slots Q (F0 m pc lsC (.int (Int32.ofInt n) :: rest)) := by
  have hc : zc32 n := ⟨by omega, by omega⟩
  have hb8 : componentBytes (newarray.typeOf .long) ≤ 8 := by decide
  have hbt : n.toNat * componentBytes (newarray.typeOf .long) ≤ 536870912 := Nat.le_trans (Nat.mul_le_mul_left _ hb8) (by omega)
  refine va_newaK (atype := .long) hx hb harr rfl hd rfl (fun q => by have := (zi_lt hc zc32_0).mp q; omega) (zi_nat hc hn) hbt hcells hslots rfl fun H1 cA e1 z1 o1 hAr hNm => ?_
  have hz : ∀ k : Int, zup σ 0 0 (σ 0 0 + 1) (σ 0 0) k = 0 := fun k => by
    have := hW.2.2.2.2.1
    rw [zup_n (fun q => by omega)]
    exact hW.2.2.2.1 _ _ (Int.le_refl _)
  refine kk H1 cA (zWo_push hW hB o1 ?_ (by rw [hk]; show (0 : Int) < 21; decide) (fun q => ?_) ?_) ⟨Nat.le_trans hS.1 (by omega), fun x g1 g2 => (o1 x (Nat.lt_of_lt_of_le g1 hS.1)).trans (hS.2.1 x g1 g2), hS.2.2⟩ (by omega)
  · unfold zce
    rw [hk, if_neg (by show ¬ (21 : Int) ≤ 13; decide), zad1_s, zad1_s, e1]
    congr 1
    refine arrV_ext fun j hj => ?_
    unfold zsv
    rw [zty21 hk, hz]
    rfl
  · rw [hk]
    exact ⟨hAr, fun z => absurd (show (21 : Int) = 22 from z) (by decide), fun z => absurd (show (30 : Int) ≤ 21 from z) (by decide)⟩
  · intro k q1 q2
    unfold zsk
    rw [zty21 hk, hz]
    exact zc64_0
theorem zh_newa22 {n : Int} (hx : p.tables.exec = Jvm.exec) (hb : c.code = b) (harr : (Jvm.Cond.arrayClass .boolean).before args s = true) (hW : zWo w D B0 ad ca σ s H) (hS : va_S A H0 H locs) (hB : B0 ≤ H.size)
    (hk : zK w (σ 0 0) = (22, n)) (hn : 0 ≤ n) (hn2 : n ≤ 65536) (hcells : cells + 1 ≤ R.cells) (hslots : slots + n.toNat ≤ R.slots) (hd : decode b pc = .ok (.newarray .boolean, 2))
    (kk : ∀ (H1 : Heap) (cA : ClassId), zWo w D B0 (zad1 ad (σ 0 0) H.size) (zad1 ca (σ 0 0) cA) (zup σ 0 0 (σ 0 0 + 1)) s H1 → va_S A H0 H1 locs → H.size ≤ H1.size → W p l e R s m args below meth c H1 locs (cells + 1) (slots + n.toNat) Q (F0 m (pc + 2) lsC (.ref H.size :: rest))) : W p l e R s m args below meth c H locs cells slots Q (F0 m pc lsC (.int (Int32.ofInt n) :: rest)) := by
  have hc : zc32 n := ⟨by omega, by omega⟩
  have hb8 : componentBytes (newarray.typeOf .boolean) ≤ 8 := by decide
  have hbt : n.toNat * componentBytes (newarray.typeOf .boolean) ≤ 536870912 := Nat.le_trans (Nat.mul_le_mul_left _ hb8) (by omega)
  refine va_newaK (atype := .boolean) hx hb harr rfl hd rfl (fun q => by have := (zi_lt hc zc32_0).mp q; omega) (zi_nat hc hn) hbt hcells hslots rfl fun H1 cA e1 z1 o1 hAr hNm => ?_
  have hz : ∀ k : Int, zup σ 0 0 (σ 0 0 + 1) (σ 0 0) k = 0 := fun k => by
    have := hW.2.2.2.2.1
    rw [zup_n (fun q => by omega)]
    exact hW.2.2.2.1 _ _ (Int.le_refl _)
  refine kk H1 cA (zWo_push hW hB o1 ?_ (by rw [hk]; show (0 : Int) < 22; decide) (fun q => ?_) ?_) ⟨Nat.le_trans hS.1 (by omega), fun x g1 g2 => (o1 x (Nat.lt_of_lt_of_le g1 hS.1)).trans (hS.2.1 x g1 g2), hS.2.2⟩ (by omega)
  · unfold zce
    rw [hk, if_neg (by show ¬ (22 : Int) ≤ 13; decide), zad1_s, zad1_s, e1]
    congr 1
    refine arrV_ext fun j hj => ?_
    unfold zsv
    rw [zty22 hk, hz]
    rfl
  · rw [hk]
    exact ⟨hAr, fun z => hNm, fun z => absurd (show (30 : Int) ≤ 22 from z) (by decide)⟩
  · intro k q1 q2
    unfold zsk
    rw [zty22 hk, hz]
    exact ⟨by decide, by decide⟩
end
