/-! The memory as the JVM's heap -/
theorem znth_get {β : Type} : ∀ (l : List β) (n : Nat), znth l n = l[n]?
  | [], n => by cases n <;> rfl
  | a :: l, 0 => rfl
  | a :: l, n + 1 => by rw [List.getElem?_cons_succ]; exact znth_get l n
theorem zcl_in : ∀ (c : Nat) (r : vw_C), znth zcl c = some r → ∀ w ∈ u_ws r.1 r.2.1 r.2.2, w ∈ lw_tbl
  | 0, _, h => by cases h; exact zinX0
  | 1, _, h => by cases h; exact zinX1
  | 2, _, h => by cases h; exact zinX2
  | 3, _, h => by cases h; exact zinX3
  | 4, _, h => by cases h; exact zinX4
  | 5, _, h => by cases h; exact zinX5
  | 6, _, h => by cases h; exact zinX6
  | 7, _, h => by cases h; exact zinX7
  | 8, _, h => by cases h; exact zinX8
  | 9, _, h => by cases h; exact zinX9
  | 10, _, h => by cases h; exact zinX10
  | 11, _, h => by cases h; exact zinX11
  | 12, _, h => by cases h; exact zinX12
  | n + 13, _, h => by cases h
noncomputable def zfind (c k : Int) : Option (Nat × Nat × Nat × Int × Int × Bool) := zfds.find? (fun q => decide ((q.1 : Int) = c) && decide ((q.2.1 : Int) = k))
set_option maxRecDepth 100000 in
theorem zfind_a : (zfds.all fun q => decide (zfind q.1 q.2.1 = some q)) = true := by decide +kernel
theorem zfind_u : ∀ q ∈ zfds, zfind q.1 q.2.1 = some q := fun q hq => of_decide_eq_true (List.all_eq_true.mp zfind_a q hq)
/-- what slot k of object a is: 1 int, 2 long, 6 boolean, 3 a reference that never changes (its cell says whether it is set), 7 a reference that may change -/
noncomputable def zty (w : zW) (a k : Int) : Nat := if (zK w a).1 ≤ 13 then match zfind (zK w a).1 k with
    | some q => q.2.2.1
    | none => 0
  else if (zK w a).1 = 20 then 1 else if (zK w a).1 = 21 then 2 else if (zK w a).1 = 22 then 6 else if (zK w a).1 = 33 then 7 else 3
noncomputable def ztg (w : zW) (a k : Int) : Int × Int := if (zK w a).1 ≤ 13 then match zfind (zK w a).1 k with
    | some q => (q.2.2.2.1, q.2.2.2.2.1)
    | none => (0, 0)
  else zet (zK w a).1
noncomputable def zsv (w : zW) (ad : Int → Nat) (σ : zMem) (a k : Int) : Value := match zty w a k with
  | 2 => .long (Int64.ofInt (σ a k))
  | 3 => if σ a k = 1 then .ref (ad (zR w a k)) else .null
  | 7 => .ref (ad (σ a k))
  | _ => .int (Int32.ofInt (σ a k))
def zvr (w : zW) (n b : Int) (t : Int × Int) : Prop := zK w b = t ∧ b ≠ 0 ∧ b < n
noncomputable def zsk (w : zW) (σ : zMem) (a k : Int) : Prop := match zty w a k with
  | 2 => zc64 (σ a k)
  | 3 => σ a k = 1 → zvr w (σ 0 0) (zR w a k) (ztg w a k)
  | 7 => zvr w (σ 0 0) (σ a k) (22, 4096)
  | 6 => 0 ≤ σ a k ∧ σ a k ≤ 1
  | _ => zc32 (σ a k)
def zaty (c : Int) : FieldType := if c = 20 then .int else if c = 21 then .long else if c = 22 then .boolean else if c = 30 then .object "RaysOfShapes$Fraction" else if c = 31 then .object "RaysOfShapes$Places" else if c = 34 then .object "java/lang/String" else .array .boolean
def zcompN (c : Int) : String := if c = 30 then "RaysOfShapes$Fraction" else if c = 31 then "RaysOfShapes$Places" else if c = 34 then "java/lang/String" else "[Z"
/-- what the tables say of an array's class -/
def zaK (s : State) (cA : ClassId) (c : Int) : Prop := ArrOfT s cA (zaty c) ∧ (c = 22 → s.vm.findClass "[Z" = some cA) ∧ (30 ≤ c → ∃ (kA : Class) (comp : ClassId), s.vm.classes[cA]? = some kA ∧ kA.kind = .array comp (zaty c) ∧ s.vm.findClass (zcompN c) = some comp)
theorem zaK.moved {s U : State} {cA : ClassId} {c : Int} (hvm : s.vm.Alike U.vm) (h : zaK s cA c) : zaK U cA c := by
  refine ⟨arrOfT_moved hvm h.1, fun q => by rw [hvm.findClass]; exact h.2.1 q, fun q => ?_⟩
  obtain ⟨kA, comp, h1, h2, h3⟩ := h.2.2 q
  obtain ⟨k', hk', he⟩ := hvm.2.2 _ _ h1
  exact ⟨k', comp, hk', by rw [he]; exact h2, by rw [hvm.findClass]; exact h3⟩
/-- object number a in the heap -/
noncomputable def zce (w : zW) (D : va_G) (ad : Int → Nat) (ca : Int → ClassId) (σ : zMem) (a : Int) (H : Heap) : Prop := if (zK w a).1 ≤ 13 then
    ∃ r : vw_C, znth zcl ((zK w a).1 - 1).toNat = some r ∧ t_OB (ad a) (D.1 ((zK w a).1 - 1).toNat) r.2.2 (D.2 ((zK w a).1 - 1).toNat) H (fun k => zsv w ad σ a k)
  else H[ad a]? = some (arrV (ca a) (zK w a).2.toNat (fun j => zsv w ad σ a j))
theorem zce.kept {w : zW} {D : va_G} {ad : Int → Nat} {ca : Int → ClassId} {σ σ' : zMem} {a : Int} {H H' : Heap} (h : zce w D ad ca σ a H) (hq : H'[ad a]? = H[ad a]?) (hs : ∀ k : Int, zsv w ad σ' a k = zsv w ad σ a k) : zce w D ad ca σ' a H' := by
  unfold zce at h ⊢
  split at h
  · rename_i hc
    rw [if_pos hc]
    obtain ⟨r, h1, h2⟩ := h
    refine ⟨r, h1, ?_⟩
    rw [show (fun k : Nat => zsv w ad σ' a k) = fun k : Nat => zsv w ad σ a k from funext fun k => hs k]
    exact h2.kept hq
  · rename_i hc
    rw [if_neg hc, hq, h]
    congr 2
    funext j
    exact (hs j).symm
/-- the world: every object that was made -/
noncomputable def zWo (w : zW) (D : va_G) (B0 : Nat) (ad : Int → Nat) (ca : Int → ClassId) (σ : zMem) (s : State) (H : Heap) : Prop :=
  (∀ a : Int, 0 < a → a < σ 0 0 → zce w D ad ca σ a H ∧ B0 ≤ ad a ∧ (13 < (zK w a).1 → zaK s (ca a) (zK w a).1)) ∧
  (∀ a b : Int, 0 < a → a < σ 0 0 → 0 < b → b < σ 0 0 → ad a = ad b → a = b) ∧
  (∀ a k : Int, 0 < a → a < σ 0 0 → 0 ≤ k → k < (zK w a).2 → zsk w σ a k) ∧
  (∀ a k : Int, σ 0 0 ≤ a → σ a k = 0) ∧ 1 ≤ σ 0 0
def zKno (s : State) (D : va_G) : Prop := ∀ (c : Nat) (q : vw_C), znth zcl c = some q → u_Kn s q.1 q.2.1 q.2.2 (D.1 c) (D.2 c)
theorem zce_lt {w : zW} {D : va_G} {ad : Int → Nat} {ca : Int → ClassId} {σ : zMem} {a : Int} {H : Heap} (h : zce w D ad ca σ a H) : ad a < H.size := by
  unfold zce at h
  split at h
  · obtain ⟨r, h1, cell, h2, h3⟩ := h
    exact (Array.getElem?_eq_some_iff.mp h2).1
  · exact (Array.getElem?_eq_some_iff.mp h).1
section
variable {p : Program} {l : Launch} {e : Env} {R : Room} {s : State} {m : MethodId} {args : Array Value} {below : List Frame} {meth : Method} {c : Code} {H : Heap} {locs : List Loc} {cells slots : Nat} {Q : State → Prop}
variable {w : zW} {D : va_G} {B0 : Nat} {ad : Int → Nat} {ca : Int → ClassId} {σ : zMem} {b : ByteArray} {pc : Nat} {lsC : Array Slot} {rest : List Value}
/-- getfield of an object that was made: the slot's value -/
theorem zh_getf (hx : p.tables.exec = Jvm.exec) (hb : c.code = b) (hts : ∀ w ∈ lw_tbl, w.before args s = true) (hK : zKno s D) (hW : zWo w D B0 ad ca σ s H)
    {en : zFe} (he : zfOK en) (hown : s.vm.findClass (zcnOf en.1) = some m.cls) {a : Int} (ha : 0 < a) (hac : a < σ 0 0) (hk : (zK w a).1 = (en.2.2.1 : Int)) (hc13 : en.2.2.1 ≤ 13) (hd : decode b pc = .ok (.getfield en.2.1, 3))
    (kk : W p l e R s m args below meth c H locs cells slots Q (F0 m (pc + 3) lsC (zsv w ad σ a en.2.2.2 :: rest))) : W p l e R s m args below meth c H locs cells slots Q (F0 m pc lsC (.ref (ad a) :: rest)) := by
  obtain ⟨r, h1, h2, h3, h4⟩ := he
  have hce := (hW.1 a ha hac).1
  unfold zce at hce
  rw [if_pos (by rw [hk]; omega)] at hce
  obtain ⟨r', h5, cell, q1, q2, q3, q4⟩ := hce
  have e1 : ((zK w a).1 - 1).toNat = en.2.2.1 - 1 := by rw [hk]; omega
  rw [e1] at h5 q2 q4
  cases h1.symm.trans h5
  obtain ⟨hS, hfc, kC, hkC, hkind⟩ := hK _ _ h1
  obtain ⟨cf, kf, fi, f, hi, hsl⟩ := hS en.2.2.2 h3
  refine W.getf hx hb hown (hts _ h4) hi (u_facts hfc hkC (u_lays hts (zcl_in _ _ h1) h3) hi).1 q1 (by rw [q3]; exact fun h => by cases h) (v := zsv w ad σ a en.2.2.2) ?_ rfl rfl hd kk
  rw [hsl]
  exact q4 _ h3
end
