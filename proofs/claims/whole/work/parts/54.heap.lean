/-! The memory as the JVM's heap -/
/-- words that stay true under all that is resolved, and that read neither arguments nor heap -/
def zwk (w : Jvm.Cond) : Bool := match w with
  | .methodLinkNest _ _ _ _ => true
  | .stringRef _ _ _ => true
  | .arrayClass _ => true
  | .arrayOver _ => true
  | w => w.onTables && w.keeps
def lw_tk : List Jvm.Cond := lw_tbl.filter zwk
theorem zin {w : Jvm.Cond} (h : w ∈ lw_tbl) (hk : zwk w = true) : w ∈ lw_tk := List.mem_filter.mpr ⟨h, hk⟩
theorem znth_get {β : Type} : ∀ (l : List β) (n : Nat), znth l n = l[n]?
  | [], n => by cases n <;> rfl
  | a :: l, 0 => rfl
  | a :: l, n + 1 => by rw [List.getElem?_cons_succ]; exact znth_get l n
theorem zcl_in : ∀ (c : Nat) (r : vw_C), znth zcl c = some r → ∀ w ∈ u_ws r.1 r.2.1 r.2.2, w ∈ lw_tbl
  | 0, _, h => by cases h; exact zinX0
  | 1, _, h => by cases h; exact zinX1
  | 2, _, h => by cases h; exact zinX2
  | 3, _, h => by cases h; exact zinX3
  | 4, _, h => by cases h; exact zinX4
  | 5, _, h => by cases h; exact zinX5
  | 6, _, h => by cases h; exact zinX6
  | 7, _, h => by cases h; exact zinX7
  | 8, _, h => by cases h; exact zinX8
  | 9, _, h => by cases h; exact zinX9
  | 10, _, h => by cases h; exact zinX10
  | 11, _, h => by cases h; exact zinX11
  | 12, _, h => by cases h; exact zinX12
  | n + 13, _, h => by cases h
theorem zclk_in (c : Nat) (r : vw_C) (h : znth zcl c = some r) : ∀ w ∈ u_ws r.1 r.2.1 r.2.2, w ∈ lw_tk := by
  intro w hw
  refine zin (zcl_in c r h w hw) ?_
  obtain ⟨k, -, rfl⟩ := List.mem_map.mp hw
  unfold u_lay
  split <;> rfl
noncomputable def zfind (c k : Int) : Option (Nat × Nat × Nat × Int × Int × Bool) := zfds.find? (fun q => decide ((q.1 : Int) = c) && decide ((q.2.1 : Int) = k))
set_option maxRecDepth 100000 in
theorem zfind_a : (zfds.all fun q => decide (zfind q.1 q.2.1 = some q)) = true := by decide +kernel
theorem zfind_u : ∀ q ∈ zfds, zfind q.1 q.2.1 = some q := fun q hq => of_decide_eq_true (List.all_eq_true.mp zfind_a q hq)
/-- what slot k of object a is: 1 int, 2 long, 6 boolean, 3 a reference that never changes (its cell says whether it is set), 7 a reference that may change -/
noncomputable def zty (w : zW) (a k : Int) : Nat := if (zK w a).1 ≤ 13 then match zfind (zK w a).1 k with
    | some q => q.2.2.1
    | none => 0
  else if (zK w a).1 = 20 then 1 else if (zK w a).1 = 21 then 2 else if (zK w a).1 = 22 then 6 else if (zK w a).1 = 33 then 7 else 3
noncomputable def ztg (w : zW) (a k : Int) : Int × Int := if (zK w a).1 ≤ 13 then match zfind (zK w a).1 k with
    | some q => (q.2.2.2.1, q.2.2.2.2.1)
    | none => (0, 0)
  else zet (zK w a).1
noncomputable def zsv (w : zW) (ad : Int → Nat) (σ : zMem) (a k : Int) : Value := match zty w a k with
  | 2 => .long (Int64.ofInt (σ a k))
  | 3 => if σ a k = 1 then .ref (ad (zR w a k)) else .null
  | 7 => .ref (ad (σ a k))
  | _ => .int (Int32.ofInt (σ a k))
def zvr (w : zW) (n b : Int) (t : Int × Int) : Prop := zK w b = t ∧ b ≠ 0 ∧ b < n
noncomputable def zsk (w : zW) (σ : zMem) (a k : Int) : Prop := match zty w a k with
  | 2 => zc64 (σ a k)
  | 3 => σ a k = 1 → zvr w (σ 0 0) (zR w a k) (ztg w a k)
  | 7 => zvr w (σ 0 0) (σ a k) (22, 4096)
  | 6 => 0 ≤ σ a k ∧ σ a k ≤ 1
  | _ => zc32 (σ a k)
def zaty (c : Int) : FieldType := if c = 20 then .int else if c = 21 then .long else if c = 22 then .boolean else if c = 30 then .object "RaysOfShapes$Fraction" else if c = 31 then .object "RaysOfShapes$Places" else if c = 34 then .object "java/lang/String" else .array .boolean
def zcompN (c : Int) : String := if c = 30 then "RaysOfShapes$Fraction" else if c = 31 then "RaysOfShapes$Places" else if c = 34 then "java/lang/String" else "[Z"
/-- what the tables say of an array's class -/
def zaK (s : State) (cA : ClassId) (c : Int) : Prop := ArrOfT s cA (zaty c) ∧ (c = 22 → s.vm.findClass "[Z" = some cA) ∧ (30 ≤ c → ∃ (kA : Class) (comp : ClassId), s.vm.classes[cA]? = some kA ∧ kA.kind = .array comp (zaty c) ∧ s.vm.findClass (zcompN c) = some comp)
theorem zaK.moved {s U : State} {cA : ClassId} {c : Int} (hvm : s.vm.Alike U.vm) (h : zaK s cA c) : zaK U cA c := by
  refine ⟨arrOfT_moved hvm h.1, fun q => by rw [hvm.findClass]; exact h.2.1 q, fun q => ?_⟩
  obtain ⟨kA, comp, h1, h2, h3⟩ := h.2.2 q
  obtain ⟨k', hk', he⟩ := hvm.2.2 _ _ h1
  exact ⟨k', comp, hk', by rw [he]; exact h2, by rw [hvm.findClass]; exact h3⟩
/-- object number a in the heap -/
noncomputable def zce (w : zW) (D : va_G) (ad : Int → Nat) (ca : Int → ClassId) (σ : zMem) (a : Int) (H : Heap) : Prop := if (zK w a).1 ≤ 13 then
    ∃ r : vw_C, znth zcl ((zK w a).1 - 1).toNat = some r ∧ t_OB (ad a) (D.1 ((zK w a).1 - 1).toNat) r.2.2 (D.2 ((zK w a).1 - 1).toNat) H (fun k => zsv w ad σ a k)
  else H[ad a]? = some (arrV (ca a) (zK w a).2.toNat (fun j => zsv w ad σ a j))
theorem zce.kept {w : zW} {D : va_G} {ad : Int → Nat} {ca : Int → ClassId} {σ σ' : zMem} {a : Int} {H H' : Heap} (h : zce w D ad ca σ a H) (hq : H'[ad a]? = H[ad a]?) (hs : ∀ k : Int, zsv w ad σ' a k = zsv w ad σ a k) : zce w D ad ca σ' a H' := by
  unfold zce at h ⊢
  split at h
  · rename_i hc
    rw [if_pos hc]
    obtain ⟨r, h1, h2⟩ := h
    refine ⟨r, h1, ?_⟩
    rw [show (fun k : Nat => zsv w ad σ' a k) = fun k : Nat => zsv w ad σ a k from funext fun k => hs k]
    exact h2.kept hq
  · rename_i hc
    rw [if_neg hc, hq, h]
    congr 2
    funext j
    exact (hs j).symm
/-- the world: every object that was made -/
noncomputable def zWo (w : zW) (D : va_G) (B0 : Nat) (ad : Int → Nat) (ca : Int → ClassId) (σ : zMem) (s : State) (H : Heap) : Prop :=
  (∀ a : Int, 0 < a → a < σ 0 0 → zce w D ad ca σ a H ∧ B0 ≤ ad a ∧ (13 < (zK w a).1 → zaK s (ca a) (zK w a).1)) ∧
  (∀ a b : Int, 0 < a → a < σ 0 0 → 0 < b → b < σ 0 0 → ad a = ad b → a = b) ∧
  (∀ a k : Int, 0 < a → a < σ 0 0 → 0 ≤ k → k < (zK w a).2 → zsk w σ a k) ∧
  (∀ a k : Int, σ 0 0 ≤ a → σ a k = 0) ∧ 1 ≤ σ 0 0 ∧ ∀ a : Int, 0 < a → a < σ 0 0 → 0 < (zK w a).1
def zKno (s : State) (D : va_G) : Prop := ∀ (c : Nat) (q : vw_C), znth zcl c = some q → 0 < q.2.2 → u_Kn s q.1 q.2.1 q.2.2 (D.1 c) (D.2 c)
theorem zce_lt {w : zW} {D : va_G} {ad : Int → Nat} {ca : Int → ClassId} {σ : zMem} {a : Int} {H : Heap} (h : zce w D ad ca σ a H) : ad a < H.size := by
  unfold zce at h
  split at h
  · obtain ⟨r, h1, cell, h2, h3⟩ := h
    exact (Array.getElem?_eq_some_iff.mp h2).1
  · exact (Array.getElem?_eq_some_iff.mp h).1
/-- a class's name by its code -/
def zclN (c : Nat) : String := match znth zcl (c - 1) with
  | some r => r.1
  | none => ""
theorem zdecl_a : ((List.range 13).all fun c => match znth zcl c with
    | some r => (List.range r.2.2).all fun k => (r.2.1 k).1 == r.1
    | none => false) = true := by decide +kernel
theorem zdecl {c k : Nat} {r : vw_C} (h : znth zcl (c - 1) = some r) (hk : k < r.2.2) : (r.2.1 k).1 = zclN c := by
  have hlt : c - 1 < 13 := znth_len h
  have h1 := List.all_eq_true.mp zdecl_a (c - 1) (List.mem_range.mpr hlt)
  rw [h] at h1
  have h2 := List.all_eq_true.mp h1 k (List.mem_range.mpr hk)
  have h3 : zclN c = r.1 := by unfold zclN; rw [h]
  rw [h3]
  exact eq_of_beq h2
theorem znm : ∀ (c : Nat) (r : vw_C), znth zcl c = some r → ∀ a, a < r.2.2 → ∀ b, b < r.2.2 → a ≠ b → (r.2.1 a).2.1 ≠ (r.2.1 b).2.1
  | 0, _, h => by cases h; exact nmX0
  | 1, _, h => by cases h; exact nmX1
  | 2, _, h => by cases h; exact nmX2
  | 3, _, h => by cases h; exact nmX3
  | 4, _, h => by cases h; exact nmX4
  | 5, _, h => by cases h; exact nmX5
  | 6, _, h => by cases h; exact nmX6
  | 7, _, h => by cases h; exact nmX7
  | 8, _, h => by cases h; exact nmX8
  | 9, _, h => by cases h; exact nmX9
  | 10, _, h => by cases h; exact nmX10
  | 11, _, h => by cases h; exact nmX11
  | 12, _, h => by cases h; exact nmX12
  | n + 13, _, h => by cases h
theorem ztyx : ∀ (c : Nat) (r : vw_C), znth zcl c = some r → ∃ ty : Nat → FieldType, ∀ k, k < r.2.2 → parseFieldDescriptor (r.2.1 k).2.2.1 = some (ty k)
  | 0, _, h => by cases h; exact ⟨_, tyX0_ok⟩
  | 1, _, h => by cases h; exact ⟨_, tyX1_ok⟩
  | 2, _, h => by cases h; exact ⟨_, tyX2_ok⟩
  | 3, _, h => by cases h; exact ⟨_, tyX3_ok⟩
  | 4, _, h => by cases h; exact ⟨_, tyX4_ok⟩
  | 5, _, h => by cases h; exact ⟨_, tyX5_ok⟩
  | 6, _, h => by cases h; exact ⟨_, tyX6_ok⟩
  | 7, _, h => by cases h; exact ⟨_, tyX7_ok⟩
  | 8, _, h => by cases h; exact ⟨_, tyX8_ok⟩
  | 9, _, h => by cases h; exact ⟨_, tyX9_ok⟩
  | 10, _, h => by cases h; exact ⟨_, tyX10_ok⟩
  | 11, _, h => by cases h; exact ⟨_, tyX11_ok⟩
  | 12, _, h => by cases h; exact ⟨_, tyX12_ok⟩
  | n + 13, _, h => by cases h
theorem zapart {args : Array Value} {s : State} {D : va_G} {c : Nat} {r : vw_C} (hts : ∀ w ∈ lw_tk, w.before args s = true) (hK : zKno s D) (h : znth zcl c = some r) : ∀ x y, x < r.2.2 → y < r.2.2 → x ≠ y → (D.2 c) x ≠ (D.2 c) y := by
  intro x y hx hy hne
  obtain ⟨ty, hty⟩ := ztyx c r h
  obtain ⟨hS, -⟩ := hK _ _ h (by omega)
  obtain ⟨_, _, _, fa, hia, ea⟩ := hS x hx
  obtain ⟨_, _, _, fb, hib, eb⟩ := hS y hy
  rw [← ea, ← eb]
  refine u_apart (u_lays hts (zclk_in c r h) hx) (u_lays hts (zclk_in c r h) hy) hia hib ?_
  rw [(State.fieldFound?_type hia (hty x hx)).1, (State.fieldFound?_type hib (hty y hy)).1]
  exact znm c r h x hx y hy hne
section
variable {p : Program} {l : Launch} {e : Env} {R : Room} {s : State} {m : MethodId} {args : Array Value} {below : List Frame} {meth : Method} {c : Code} {H : Heap} {locs : List Loc} {cells slots : Nat} {Q : State → Prop}
variable {w : zW} {D : va_G} {B0 : Nat} {ad : Int → Nat} {ca : Int → ClassId} {σ : zMem} {b : ByteArray} {pc : Nat} {lsC : Array Slot} {rest : List Value}
/-- getfield of an object that was made: the slot's value -/
theorem zh_getf (hx : p.tables.exec = Jvm.exec) (hb : c.code = b) (hts : ∀ w ∈ lw_tk, w.before args s = true) (hK : zKno s D) (hW : zWo w D B0 ad ca σ s H)
    {en : zFe} (he : zfOK en) (hown : s.vm.findClass (zcnOf en.1) = some m.cls) {a : Int} (ha : 0 < a) (hac : a < σ 0 0) (hk : (zK w a).1 = (en.2.2.1 : Int)) (hc13 : en.2.2.1 ≤ 13) (hd : decode b pc = .ok (.getfield en.2.1, 3))
    (kk : W p l e R s m args below meth c H locs cells slots Q (F0 m (pc + 3) lsC (zsv w ad σ a en.2.2.2 :: rest))) : W p l e R s m args below meth c H locs cells slots Q (F0 m pc lsC (.ref (ad a) :: rest)) := by
  obtain ⟨r, h1, h2, h3, h4⟩ := he
  have hce := (hW.1 a ha hac).1
  unfold zce at hce
  rw [if_pos (by rw [hk]; omega)] at hce
  obtain ⟨r', h5, cell, q1, q2, q3, q4⟩ := hce
  have e1 : ((zK w a).1 - 1).toNat = en.2.2.1 - 1 := by rw [hk]; omega
  rw [e1] at h5 q2 q4
  cases h1.symm.trans h5
  obtain ⟨hS, hfc, kC, hkC, hkind⟩ := hK _ _ h1 (by omega)
  obtain ⟨cf, kf, fi, f, hi, hsl⟩ := hS en.2.2.2 h3
  refine W.getf hx hb hown (hts _ (zin h4 rfl)) hi (u_facts hfc hkC (u_lays hts (zclk_in _ _ h1) h3) hi).1 q1 (by rw [q3]; exact fun h => by cases h) (v := zsv w ad σ a en.2.2.2) ?_ rfl rfl hd kk
  rw [hsl]
  exact q4 _ h3
theorem zup_s {σ : zMem} {a k v : Int} (h : a ≠ 0) : zup σ a k v a k = v := by simp [zup, h]
theorem zup_0 {σ : zMem} {v : Int} (h : σ 0 0 ≤ v) : zup σ 0 0 v 0 0 = v := by simp [zup]; omega
theorem zup_n {σ : zMem} {a k v a' k' : Int} (h : ¬ (a' = a ∧ k' = k)) : zup σ a k v a' k' = σ a' k' := by simp [zup, h]
theorem zsv_congr {w : zW} {ad : Int → Nat} {σ σ' : zMem} {a k : Int} (h : σ' a k = σ a k) : zsv w ad σ' a k = zsv w ad σ a k := by unfold zsv; rw [h]
theorem zsk_congr {w : zW} {σ σ' : zMem} {a k : Int} (h : σ' a k = σ a k) (h0 : σ' 0 0 = σ 0 0) (hk : zsk w σ a k) : zsk w σ' a k := by unfold zsk at hk ⊢; rw [h, h0]; exact hk
/-- one slot of one object is written -/
theorem zWo_set {a k v : Int} {H' : Heap} (hW : zWo w D B0 ad ca σ s H) (ha : 0 < a) (hac : a < σ 0 0) (hq : ∀ q, q ≠ ad a → H'[q]? = H[q]?) (hc : zce w D ad ca (zup σ a k v) a H') (hk : 0 ≤ k → k < (zK w a).2 → zsk w (zup σ a k v) a k) :
    zWo w D B0 ad ca (zup σ a k v) s H' := by
  obtain ⟨h1, h2, h3, h4, h5⟩ := hW
  have h0 : zup σ a k v 0 0 = σ 0 0 := zup_n (fun q => by omega)
  refine ⟨fun a' g1 g2 => ?_, ?_, fun a' k' g1 g2 g3 g4 => ?_, fun a' k' g => ?_, by rw [h0]; exact h5⟩
  · rw [h0] at g2
    obtain ⟨i1, i2, i3⟩ := h1 a' g1 g2
    by_cases e : a' = a
    · subst e; exact ⟨hc, i2, i3⟩
    · exact ⟨i1.kept (hq _ (fun q => e (h2 _ _ g1 g2 ha hac q))) (fun k' => zsv_congr (zup_n (fun q => e q.1))), i2, i3⟩
  · rw [h0]; exact h2
  · rw [h0] at g2
    by_cases e : a' = a ∧ k' = k
    · obtain ⟨rfl, rfl⟩ := e; exact hk g3 g4
    · exact zsk_congr (zup_n e) h0 (h3 a' k' g1 g2 g3 g4)
  · rw [h0] at g
    rw [zup_n (fun q => by omega)]
    exact h4 a' k' g
/-- putfield of what isn't final -/
theorem zh_putf {A : Nat → Prop} {H0 : Heap} (hx : p.tables.exec = Jvm.exec) (hb : c.code = b) (hts : ∀ w ∈ lw_tk, w.before args s = true) (hK : zKno s D) (hW : zWo w D B0 ad ca σ s H) (hS0 : va_S A H0 H locs)
    {en : zFe} (he : zfOK en) (hown : s.vm.findClass (zcnOf en.1) = some m.cls) {a : Int} (ha : 0 < a) (hac : a < σ 0 0) (hA : A (ad a)) (hk : (zK w a).1 = (en.2.2.1 : Int)) (hc13 : en.2.2.1 ≤ 13) (hd : decode b pc = .ok (.putfield en.2.1, 3))
    {ty : Nat} {c2 n2 : Int} {fin : Bool} (hf : zfdOK (en.2.2.1, en.2.2.2, ty, c2, n2, fin)) (hfin : fin = false ∨ (meth.name = "<init>" ∧ zcnOf en.1 = (zclN en.2.2.1))) {v : Value} {x : Int}
    (hv : ∀ t, zfdT ty t → narrow t v = v ∧ fits t v = true) (hsv : zsv w ad (zup σ a en.2.2.2 x) a en.2.2.2 = v) (hsk : zsk w (zup σ a en.2.2.2 x) a en.2.2.2)
    (kk : ∀ (H1 : Heap) (locs1 : List Loc), zWo w D B0 ad ca (zup σ a en.2.2.2 x) s H1 → va_S A H0 H1 locs1 → W p l e R s m args below meth c H1 locs1 cells slots Q (F0 m (pc + 3) lsC rest)) : W p l e R s m args below meth c H locs cells slots Q (F0 m pc lsC (v :: .ref (ad a) :: rest)) := by
  obtain ⟨r, h1, h2, h3, h4⟩ := he
  have hce := (hW.1 a ha hac).1
  unfold zce at hce
  rw [if_pos (by rw [hk]; omega)] at hce
  obtain ⟨r', h5, cell, q1, q2, q3, q4⟩ := hce
  have e1 : ((zK w a).1 - 1).toNat = en.2.2.1 - 1 := by rw [hk]; omega
  rw [e1] at h5 q2 q4
  cases h1.symm.trans h5
  obtain ⟨hS, hfc, kC, hkC, hkind⟩ := hK _ _ h1 (by omega)
  obtain ⟨cf, kf, fi, f, hi, hsl⟩ := hS en.2.2.2 h3
  obtain ⟨r2, h6, -, -, ⟨t, h7, h8⟩, h9⟩ := hf
  cases h1.symm.trans h6
  obtain ⟨hn, hfit⟩ := hv t h8
  have hlay := hts _ (zclk_in _ _ h1 _ (u_in_lay h3))
  unfold u_lay at hlay
  have hst := (u_facts hfc hkC (u_lays hts (zclk_in _ _ h1) h3) hi).1
  have hap := zapart hts hK h1
  have hnew : ∀ H' : Heap, H'[ad a]? = some (cell.setSlot f.slot v) → zce w D ad ca (zup σ a en.2.2.2 x) a H' := by
    intro H' e2
    unfold zce
    rw [if_pos (by rw [hk]; omega), e1]
    refine ⟨r, h1, _, e2, q2, q3, ?_⟩
    intro j hj
    rw [hsl]
    have h10 := t_set q4 (fun x y hx hy hne => hap x y hx hy hne) h3 v j hj
    rw [h10]
    congr 1
    unfold updV
    split
    · rename_i e3; subst e3; exact hsv.symm
    · rename_i e3; exact (zsv_congr (zup_n (fun q => e3 (by omega)))).symm
  rcases Bool.eq_false_or_eq_true fin with hf1 | hf1
  · rw [hf1] at h9
    rw [if_pos h9] at hlay
    rcases hfin with hfin | ⟨hin2, hdecl⟩
    · rw [hf1] at hfin; cases hfin
    have hcf : m.cls = cf := by
      obtain ⟨_, _, c', _, _, _, -, -, hf', -, -, -, hown2, -⟩ := Cond.laysFinal_spec hlay
      have e1 : c' = cf := by have := hi.symm.trans hf'; simp at this; exact this.1.symm
      rw [zdecl h1 h3, ← hdecl] at hown2
      rw [← e1]; exact Option.some.inj (hown.symm.trans hown2)
    have h6 := u_fits hfc hkC hkind (Or.inr hlay) hi h7 hn hfit
    refine W.putFinK hx hb hown (hts _ (zin h4 rfl)) hi hst hcf hin2 (by rw [q2]; exact h6) q1 q3 (by rw [hsl]; exact k2_hasslot (q4 _ h3)) rfl rfl hd fun H' e1 e2 e3 => ?_
    exact kk H' _ (zWo_set hW ha hac e3 (hnew H' e1) (fun _ _ => hsk)) (hS0.put e2 e3 hA)
  · rw [hf1] at h9
    rw [if_neg (by rw [h9]; exact Bool.false_ne_true)] at hlay
    have h6 := u_store hfc hkC hkind hlay hi h7 hn hfit
    refine W.putK hx hb (f := f) ⟨hown, hts _ (zin h4 rfl), ⟨_, _, _, hi⟩, hst⟩ (by rw [q2]; exact h6) q1 q3 (by rw [hsl]; exact k2_hasslot (q4 _ h3)) rfl rfl hd fun H' e1 e2 e3 => ?_
    exact kk H' _ (zWo_set hW ha hac e3 (hnew H' e1) (fun _ _ => hsk)) (hS0.put e2 e3 hA)
end
