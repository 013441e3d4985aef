/-! Arrays of references are made -/
section
variable {p : Program} {l : Launch} {e : Env} {R : Room} {s : State} {m : MethodId} {args : Array Value} {below : List Frame} {meth : Method} {c : Code} {H : Heap} {locs : List Loc} {cells slots : Nat} {Q : State → Prop}
variable {w : zW} {D : va_G} {B0 : Nat} {ad : Int → Nat} {ca : Int → ClassId} {σ : zMem} {b : ByteArray} {pc : Nat} {lsC : Array Slot} {rest : List Value} {A : Nat → Prop} {H0 : Heap}
theorem zanm_ty {k : Nat} (h : k = 30 ∨ k = 31 ∨ k = 34) : zaty (k : Int) = .object (zanm k) ∧ zcompN (k : Int) = zanm k := by
  rcases h with rfl | rfl | rfl <;> exact ⟨rfl, rfl⟩
theorem zh_anewa {en : Nat × Nat × Nat} {n : Int} (he : zanOK en) (hcc : en.2.2 = 30 ∨ en.2.2 = 31 ∨ en.2.2 = 34) (hx : p.tables.exec = Jvm.exec) (hb : c.code = b) (hts : ∀ w ∈ lw_tk, w.before args s = true) (hW : zWo w D B0 ad ca σ s H) (hS : va_S A H0 H locs) (hB : B0 ≤ H.size) (hown : s.vm.findClass (zcnOf en.1) = some m.cls)
    (hk : zK w (σ 0 0) = ((en.2.2 : Int), n)) (hn : 0 ≤ n) (hn2 : n ≤ 65536) (hcells : cells + 1 ≤ R.cells) (hslots : slots + n.toNat ≤ R.slots) (hd : decode b pc = .ok (.anewarray en.2.1, 3))
    (kk : ∀ (H1 : Heap) (cA : ClassId), zWo w D B0 (zad1 ad (σ 0 0) H.size) (zad1 ca (σ 0 0) cA) (zup σ 0 0 (σ 0 0 + 1)) s H1 → va_S A H0 H1 locs → H.size ≤ H1.size → W p l e R s m args below meth c H1 locs (cells + 1) (slots + n.toNat) Q (F0 m (pc + 3) lsC (.ref H.size :: rest))) : W p l e R s m args below meth c H locs cells slots Q (F0 m pc lsC (.int (Int32.ofInt n) :: rest)) := by
  have hc : zc32 n := ⟨by omega, by omega⟩
  have hnn := zi_nat hc hn
  obtain ⟨he1, he2⟩ := he
  obtain ⟨t1, t2⟩ := zanm_ty hcc
  have h30 : (30 : Int) ≤ (en.2.2 : Int) := by omega
  have h33 : (en.2.2 : Int) ≠ 33 := by omega
  refine W.anew hx hb hown (hts _ (zin he1 rfl)) (hts _ (zin he2 rfl)) rfl hd rfl (fun q => by have := (zi_lt hc zc32_0).mp q; omega) (by rw [hnn]; omega) hcells (by rw [hnn]; exact hslots) fun cA kA comp f1 f2 f3 f4 => ?_
  rw [hnn]
  generalize hH1 : H.push ({ cls := cA, slots := Array.replicate n.toNat .null, vm := .none } : Cell) = H1
  have z1 : H1.size = H.size + 1 := by rw [← hH1, Array.size_push]
  have e1 : H1[H.size]? = some (arrV cA n.toNat (fun _ => .null)) := by rw [← hH1, Array.getElem?_push_size, ← arrV_new]
  have o1 : ∀ q : Nat, q < H.size → H1[q]? = H[q]? := fun q hq => by rw [← hH1, Array.getElem?_push, if_neg (Nat.ne_of_lt hq)]
  have hAr : ArrOfT s cA (.object (zanm en.2.2)) := fun N z => ⟨(fun k h => by cases h), kA, f2, comp, f3⟩
  have hz : ∀ k : Int, zup σ 0 0 (σ 0 0 + 1) (σ 0 0) k = 0 := fun k => by
    have := hW.2.2.2.2.1
    rw [zup_n (fun q => by omega)]
    exact hW.2.2.2.1 _ _ (Int.le_refl _)
  refine kk H1 cA (zWo_push hW hB o1 ?_ (by rw [hk]; show (0 : Int) < (en.2.2 : Int); omega) (fun q => ?_) ?_) ⟨Nat.le_trans hS.1 (by omega), fun x g1 g2 => (o1 x (Nat.lt_of_lt_of_le g1 hS.1)).trans (hS.2.1 x g1 g2), hS.2.2⟩ (by omega)
  · unfold zce
    rw [hk, if_neg (by show ¬ (en.2.2 : Int) ≤ 13; omega), zad1_s, zad1_s, e1]
    congr 1
    refine arrV_ext fun j hj => ?_
    unfold zsv
    rw [zty3 hk h30 h33, hz]
    rfl
  · rw [hk]
    refine ⟨by rw [show (((en.2.2 : Int), n).1) = (en.2.2 : Int) from rfl, t1]; exact hAr, fun z => ?_, fun z => ⟨kA, comp, f2, ?_, ?_⟩⟩
    · have : (en.2.2 : Int) = 22 := z
      omega
    · show kA.kind = .array comp (zaty (en.2.2 : Int))
      rw [t1]; exact f3
    · show s.vm.findClass (zcompN (en.2.2 : Int)) = some comp
      rw [t2]; exact f4
  · intro k q1 q2
    unfold zsk
    rw [zty3 hk h30 h33, hz]
    exact fun z => absurd z (by decide)
end
