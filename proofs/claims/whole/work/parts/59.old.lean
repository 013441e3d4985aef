/-! What was there before: words that stay, the script, static tables, texts -/
theorem zidx {vm vm' : Vm} (h : vm.Alike vm') (f : Class → Bool) (hf : ∀ k : Class, f k.bare = f k) : vm'.classes.findIdx? f = vm.classes.findIdx? f := by
  have e : ∀ v : Vm, v.bare.classes.findIdx? f = v.classes.findIdx? f := fun v => by
    simp only [Vm.bare, Array.findIdx?_map]
    congr 1; funext k; exact hf k
  rw [← e vm', ← e vm, h.bare_eq]
theorem zao_vm {args a' : Array Value} {s U : State} (h : s.vm.Alike U.vm) {ty : FieldType} (h0 : (Jvm.Cond.arrayOver ty).before args s = true) : (Jvm.Cond.arrayOver ty).before a' U = true := by
  simp only [Jvm.Cond.before, Jvm.Cond.holds, Jvm.Cond.value] at h0 ⊢
  refine Eq.trans ?_ h0
  simp only [h.findClass]
  congr 1
  congr 1
  funext comp
  rw [zidx h _ (fun k => rfl)]
  congr 1
  funext c
  exact h.class_map _ (fun k r _ _ => rfl) c
theorem zsr_vm {args a' : Array Value} {s U : State} (hW : s.WarmedH U.vm) {o t : String} {i : Nat} (h : (Jvm.Cond.stringRef o i t).before args s = true) : (Jvm.Cond.stringRef o i t).before a' U = true := by
  have h1 := Cond.stringRef_warmed hW h
  first
    | exact h1
    | (simp only [Jvm.Cond.before, Jvm.Cond.holds, Jvm.Cond.value, State.names, State.poolOf?, State.resolvedAt?, State.vm_setVm] at h1 ⊢; exact h1)
theorem zwk_warm {w : Jvm.Cond} (hk : zwk w = true) {args a' : Array Value} {s U : State} (hW : s.WarmedH U.vm) (h : w.before args s = true) : w.before a' U = true := by
  cases w
  case methodLinkNest o i x hst => exact va_Nw.use rfl (va_Nw.warmM hW (va_Nw.of rfl h))
  case stringRef o i t => exact zsr_vm hW h
  case arrayClass ty => exact word_at hW (Or.inr ⟨ty, rfl⟩) h
  case arrayOver ty => exact zao_vm hW.alike h
  all_goals exact word_at hW (Or.inl hk) h
theorem zts_warm {args a' : Array Value} {s U : State} (hW : s.WarmedH U.vm) (h : ∀ w ∈ lw_tk, w.before args s = true) : ∀ w ∈ lw_tk, w.before a' U = true := fun w hw => zwk_warm (List.mem_filter.mp hw).2 hW (h w hw)
def zA0 (B0 : Nat) : Nat → Prop := fun q => B0 ≤ q
noncomputable def zOld (w : zW) (ad : Int → Nat) (v0 : Value) (B0 : Nat) (U : State) (H : Heap) : Prop :=
  (∀ a : Int, a < 0 → (zK w a).1 = 23 → va_T .int (ad a) (zK w a).2.toNat (fun j => .int (Int32.ofInt (zR w a j))) (zA0 B0) U H) ∧
  (∀ a : Int, a < 0 → (zK w a).1 = 40 → va_O "java/lang/String" (ad a) (zA0 B0) U H ∧ va_OF "java/lang/String" "coder" "B" (.int 0) (ad a) (zA0 B0) U H ∧ va_OF "java/lang/String" "value" "[B" (.ref (ad (zR w a 0))) (ad a) (zA0 B0) U H) ∧
  (∀ a : Int, a < 0 → (zK w a).1 = 24 → va_T .byte (ad a) (zR w a (-1)).toNat (fun j => .int (Int32.ofInt (zR w a j))) (zA0 B0) U H) ∧
  va_Z "RaysOfShapes$Kinds" "UNDER" "[I" (.ref (ad (-2))) (zA0 B0) U H ∧ va_Z "RaysOfShapes$Kinds" "NUMBERS_OF" "[I" (.ref (ad (-3))) (zA0 B0) U H ∧
  va_Z "java/lang/String" "COMPACT_STRINGS" "Z" (.int 1) (zA0 B0) U H ∧ va_Z "jdk/internal/util/Preconditions" "SIOOBE_FORMATTER" "Ljava/util/function/BiFunction;" v0 (zA0 B0) U H ∧
  v0.category = 1 ∧ ∀ q ∈ zsis, ∃ t : String, vk_R (zcnOf q.1) q.2.1 t (ad q.2.2) U
theorem zOld.next {w : zW} {ad ad' : Int → Nat} {v0 : Value} {B0 : Nat} {s U : State} {H H1 : Heap} (h : zOld w ad v0 B0 s H) (hW : s.WarmedH U.vm) (hq : ∀ a : Nat, a < H.size → ¬ zA0 B0 a → H1[a]? = H[a]?) (had : ∀ a : Int, a < 0 → ad' a = ad a)
    (hR : ∀ a : Int, a < 0 → (zK w a).1 = 40 → zR w a 0 < 0) (hs : ∀ q ∈ zsis, q.2.2 < 0) : zOld w ad' v0 B0 U H1 := by
  obtain ⟨h1, h2, h3, h4, h5, h6, h7, h8, h9⟩ := h
  refine ⟨fun a q z => ?_, fun a q z => ?_, fun a q z => ?_, ?_, ?_, ?_, ?_, h8, fun q hq2 => ?_⟩
  · rw [had a q]; exact va_T.moved hW.alike ((h1 a q z).kept hq)
  · obtain ⟨a1, a2, a3⟩ := h2 a q z
    rw [had a q, had _ (hR a q z)]
    exact ⟨va_O.moved hW.alike (a1.kept hq), va_OF.moved hW.alike (a2.kept hq), va_OF.moved hW.alike (a3.kept hq)⟩
  · rw [had a q]; exact va_T.moved hW.alike ((h3 a q z).kept hq)
  · rw [had (-2) (by decide)]; exact va_Z.moved hW.alike (h4.kept hq)
  · rw [had (-3) (by decide)]; exact va_Z.moved hW.alike (h5.kept hq)
  · exact va_Z.moved hW.alike (h6.kept hq)
  · exact va_Z.moved hW.alike (h7.kept hq)
  · obtain ⟨t, ht⟩ := h9 q hq2
    rw [had _ (hs q hq2)]
    exact ⟨t, ht.warm hW⟩
/-! Numbers below 0 -/
def zw0 : zW := (0, fun _ => 0)
theorem zK_neg (w : zW) (n : Nat) : zK w (Int.negSucc (n + 1)) = zK zw0 (Int.negSucc (n + 1)) := rfl
theorem zR_neg (w : zW) (n : Nat) (k : Int) : zR w (Int.negSucc (n + 1)) k = zR zw0 (Int.negSucc (n + 1)) k := rfl
theorem zK_m1 (w : zW) : zK w (-1) = (23, w.1) := rfl
theorem zR_m1 (w : zW) (k : Int) : zR w (-1) k = w.2 k := rfl
theorem zKn_len : (zKn zw0).length = 53 := by decide +kernel
theorem zK_out {n : Nat} (h : 53 ≤ n) : zK zw0 (Int.negSucc n) = (0, 0) := by
  show (znth (zKn zw0) n).getD (0, 0) = _
  rw [znth_get, List.getElem?_eq_none (by rw [zKn_len]; exact h)]
  rfl
/-- what is checked of the numbers -2 .. -53 -/
def zngOK (n : Nat) : Bool :=
  match (zK zw0 (Int.negSucc (n + 1))).1 with
  | 0 => true
  | 23 => decide ((zK zw0 (Int.negSucc (n + 1))).2 = 18) && (List.range 18).all (fun i => decide (-128 ≤ zR zw0 (Int.negSucc (n + 1)) i ∧ zR zw0 (Int.negSucc (n + 1)) i < 128))
  | 40 => decide (zK zw0 (zR zw0 (Int.negSucc (n + 1)) 0) = (24, 0)) && decide (zR zw0 (Int.negSucc (n + 1)) 0 < -1) && decide (zR zw0 (Int.negSucc (n + 1)) 1 = 0) && decide ((zK zw0 (Int.negSucc (n + 1))).2 = 0)
  | 24 => decide (0 ≤ zR zw0 (Int.negSucc (n + 1)) (-1)) && decide (zR zw0 (Int.negSucc (n + 1)) (-1) < 100) && (List.range 100).all (fun i => decide (-128 ≤ zR zw0 (Int.negSucc (n + 1)) i ∧ zR zw0 (Int.negSucc (n + 1)) i < 128)) && decide ((zK zw0 (Int.negSucc (n + 1))).2 = 0)
  | _ => false
theorem zng_all : ((List.range 52).all zngOK) = true := by decide +kernel
theorem zng {w : zW} {a : Int} (h : a < 0) (h1 : a ≠ -1) : ∃ n : Nat, a = Int.negSucc (n + 1) ∧ zK w a = zK zw0 a ∧ (∀ k, zR w a k = zR zw0 a k) ∧ (zngOK n = true ∨ zK zw0 a = (0, 0)) := by
  obtain ⟨m, rfl⟩ : ∃ m : Nat, a = Int.negSucc m := ⟨(-a - 1).toNat, by omega⟩
  cases m with
  | zero => exact absurd rfl h1
  | succ n =>
    refine ⟨n, rfl, zK_neg w n, zR_neg w n, ?_⟩
    by_cases hn : n < 52
    · exact Or.inl (List.all_eq_true.mp zng_all n (List.mem_range.mpr hn))
    · exact Or.inr (zK_out (by omega))
def zPu (w : zW) : Prop := 0 ≤ w.1 ∧ w.1 ≤ 3584 ∧ ∀ k : Int, 0 ≤ k → k < w.1 → zc32 (w.2 k)
theorem zneg_codes {w : zW} {a : Int} (h : a < 0) : (zK w a).1 = 0 ∨ (zK w a).1 = 23 ∨ (zK w a).1 = 40 ∨ (zK w a).1 = 24 := by
  by_cases h1 : a = -1
  · subst h1; exact Or.inr (Or.inl rfl)
  · obtain ⟨n, rfl, e1, e2, e3⟩ := zng (w := w) h h1
    rw [e1]
    rcases e3 with e3 | e3
    · unfold zngOK at e3
      split at e3 <;> simp_all
    · rw [e3]; exact Or.inl rfl
theorem zpos {w : zW} {a : Int} (h0 : a ≠ 0) (h1 : 0 < (zK w a).1) (h2 : (zK w a).1 ≠ 23) (h3 : (zK w a).1 ≠ 24) (h4 : (zK w a).1 ≠ 40) : 0 < a := by
  by_cases h : a < 0
  · rcases zneg_codes (w := w) h with q | q | q | q <;> omega
  · omega
theorem zneg23 {w : zW} (hP : zPu w) {a : Int} (h : a < 0) (hc : (zK w a).1 = 23) : 0 ≤ (zK w a).2 ∧ (zK w a).2 < 65536 ∧ ∀ k : Int, 0 ≤ k → k < (zK w a).2 → zc32 (zR w a k) := by
  by_cases h1 : a = -1
  · subst h1
    rw [zK_m1]
    exact ⟨hP.1, by have := hP.2.1; show w.1 < 65536; omega, fun k q1 q2 => hP.2.2 k q1 q2⟩
  · obtain ⟨n, rfl, e1, e2, e3⟩ := zng (w := w) h h1
    rw [e1] at hc ⊢
    rcases e3 with e3 | e3
    · unfold zngOK at e3
      rw [hc] at e3
      simp only [Bool.and_eq_true, decide_eq_true_eq, List.all_eq_true, List.mem_range] at e3
      rw [e3.1]
      refine ⟨by decide, by decide, fun k q1 q2 => ?_⟩
      have := e3.2 k.toNat (by omega)
      rw [show ((k.toNat : Nat) : Int) = k by omega] at this
      rw [e2]
      exact ⟨by omega, by omega⟩
    · rw [e3] at hc; exact absurd hc (by decide)
theorem zneg40 {w : zW} {a : Int} (h : a < 0) (hc : (zK w a).1 = 40) : zK w (zR w a 0) = (24, 0) ∧ zR w a 0 < 0 ∧ zR w a 1 = 0 ∧ (zK w a).2 = 0 := by
  by_cases h1 : a = -1
  · subst h1; rw [zK_m1] at hc; exact absurd (show (23 : Int) = 40 from hc) (by decide)
  · obtain ⟨n, rfl, e1, e2, e3⟩ := zng (w := w) h h1
    rw [e1] at hc ⊢
    rw [e2, e2]
    rcases e3 with e3 | e3
    · unfold zngOK at e3
      rw [hc] at e3
      simp only [Bool.and_eq_true, decide_eq_true_eq] at e3
      obtain ⟨⟨⟨g1, g2⟩, g3⟩, g4⟩ := e3
      refine ⟨?_, by omega, g3, g4⟩
      obtain ⟨n2, e4, e5, -, -⟩ := zng (w := w) (a := zR zw0 (Int.negSucc (n + 1)) 0) (by omega) (by omega)
      rw [e5]; exact g1
    · rw [e3] at hc; exact absurd hc (by decide)
theorem zneg24 {w : zW} {a : Int} (h : a < 0) (hc : (zK w a).1 = 24) : 0 ≤ zR w a (-1) ∧ zR w a (-1) < 65536 ∧ ∀ k : Int, 0 ≤ k → k < zR w a (-1) → zc32 (zR w a k) ∧ -128 ≤ zR w a k ∧ zR w a k < 128 := by
  by_cases h1 : a = -1
  · subst h1; rw [zK_m1] at hc; exact absurd (show (23 : Int) = 24 from hc) (by decide)
  · obtain ⟨n, rfl, e1, e2, e3⟩ := zng (w := w) h h1
    rw [e1] at hc
    rw [e2]
    rcases e3 with e3 | e3
    · unfold zngOK at e3
      rw [hc] at e3
      simp only [Bool.and_eq_true, decide_eq_true_eq, List.all_eq_true, List.mem_range] at e3
      obtain ⟨⟨⟨g1, g2⟩, g3⟩, g4⟩ := e3
      refine ⟨g1, by omega, fun k q1 q2 => ?_⟩
      have := g3 k.toNat (by omega)
      rw [show ((k.toNat : Nat) : Int) = k by omega] at this
      rw [e2]
      exact ⟨⟨by omega, by omega⟩, by omega, by omega⟩
    · rw [e3] at hc; exact absurd hc (by decide)
theorem zsis_neg : ∀ q ∈ zsis, q.2.2 < 0 := by
  intro q hq
  have h : (zsis.all fun q => decide (q.2.2 < 0)) = true := by decide +kernel
  exact of_decide_eq_true (List.all_eq_true.mp h q hq)
theorem zOld.go {w : zW} {ad ad' : Int → Nat} {v0 : Value} {B0 : Nat} {s U : State} {H H1 : Heap} (h : zOld w ad v0 B0 s H) (hW : s.WarmedH U.vm) (hq : ∀ a : Nat, a < H.size → ¬ zA0 B0 a → H1[a]? = H[a]?) (had : ∀ a : Int, a < 0 → ad' a = ad a) : zOld w ad' v0 B0 U H1 :=
  h.next hW hq had (fun a q z => (zneg40 q z).2.1) zsis_neg
section
variable {p : Program} {l : Launch} {e : Env} {R : Room} {s : State} {m : MethodId} {args : Array Value} {below : List Frame} {meth : Method} {c : Code} {H : Heap} {locs : List Loc} {cells slots : Nat} {Q : State → Prop}
variable {w : zW} {v0 : Value} {B0 : Nat} {ad : Int → Nat} {b : ByteArray} {pc : Nat} {lsC : Array Slot} {rest : List Value} {a i : Int}
theorem zh_iald23 (hx : p.tables.exec = Jvm.exec) (hb : c.code = b) (hP : zPu w) (hO : zOld w ad v0 B0 s s.heap) (hS : va_S (zA0 B0) s.heap H locs) (ha : a < 0) (hk : (zK w a).1 = 23) (hi : zc32 i) (h0 : 0 ≤ i) (h1 : i < (zK w a).2) (hd : decode b pc = .ok (.iaload, 1))
    (kk : W p l e R s m args below meth c H locs cells slots Q (F0 m (pc + 1) lsC (.int (Int32.ofInt (zR w a i)) :: rest))) : W p l e R s m args below meth c H locs cells slots Q (F0 m pc lsC (.int (Int32.ofInt i) :: .ref (ad a) :: rest)) := by
  refine va_ti hx hb (hO.1 a ha hk) hS (zi_in hi h0 (by omega)) (v := .int (Int32.ofInt (zR w a i))) ?_ hd kk
  rw [zi_nat hi h0, show ((i.toNat : Nat) : Int) = i by omega]
theorem zh_bald24 (hx : p.tables.exec = Jvm.exec) (hb : c.code = b) (hO : zOld w ad v0 B0 s s.heap) (hS : va_S (zA0 B0) s.heap H locs) (ha : a < 0) (hk : (zK w a).1 = 24) (hi : zc32 i) (h0 : 0 ≤ i) (h1 : i < zR w a (-1)) (hd : decode b pc = .ok (.baload, 1))
    (kk : W p l e R s m args below meth c H locs cells slots Q (F0 m (pc + 1) lsC (.int (Int32.ofInt (zR w a i)) :: rest))) : W p l e R s m args below meth c H locs cells slots Q (F0 m pc lsC (.int (Int32.ofInt i) :: .ref (ad a) :: rest)) := by
  refine va_tb hx hb (hO.2.2.1 a ha hk) hS (zi_in hi h0 (by omega)) (v := .int (Int32.ofInt (zR w a i))) ?_ hd kk
  rw [zi_nat hi h0, show ((i.toNat : Nat) : Int) = i by omega]
theorem zh_alenT {ty : FieldType} {t N : Nat} {f : Nat → Value} {n : Int} (hx : p.tables.exec = Jvm.exec) (hb : c.code = b) (hT : va_T ty t N f (zA0 B0) s s.heap) (hS : va_S (zA0 B0) s.heap H locs) (hn : n = (N : Int)) (hd : decode b pc = .ok (.arraylength, 1))
    (kk : W p l e R s m args below meth c H locs cells slots Q (F0 m (pc + 1) lsC (.int (Int32.ofInt n) :: rest))) : W p l e R s m args below meth c H locs cells slots Q (F0 m pc lsC (.ref t :: rest)) := by
  obtain ⟨cell, h1, h2, h3, h4, h5, h6, h7⟩ := hT
  refine W.alen (n := Int32.ofInt n) hx hb (by rw [hS.2.1 t (Array.getElem?_eq_some_iff.mp h1).1 h7]; exact h1) h2 (by rw [h5, hn]; rfl) rfl rfl hd kk
set_option maxRecDepth 100000 in
theorem zw_val : Jvm.Cond.fieldLink "java/lang/String" 9 "java/lang/String" "value" "[B" ∈ lw_tbl := zsub_8 (List.mem_of_getElem? (i := 214) rfl)
set_option maxRecDepth 100000 in
theorem zw_cod : Jvm.Cond.fieldLink "java/lang/String" 15 "java/lang/String" "coder" "B" ∈ lw_tbl := zsub_8 (List.mem_of_getElem? (i := 215) rfl)
set_option maxRecDepth 100000 in
theorem zw_und : Jvm.Cond.fieldLink "RaysOfShapes$Kinds" 9 "RaysOfShapes$Kinds" "UNDER" "[I" ∈ lw_tbl := zsub_2 (List.mem_of_getElem? (i := 175) rfl)
set_option maxRecDepth 100000 in
theorem zw_num : Jvm.Cond.fieldLink "RaysOfShapes$Kinds" 15 "RaysOfShapes$Kinds" "NUMBERS_OF" "[I" ∈ lw_tbl := zsub_4 (List.mem_of_getElem? (i := 86) rfl)
set_option maxRecDepth 100000 in
theorem zw_cmp : Jvm.Cond.fieldLink "java/lang/String" 38 "java/lang/String" "COMPACT_STRINGS" "Z" ∈ lw_tbl := zsub_4 (List.mem_of_getElem? (i := 39) rfl)
set_option maxRecDepth 100000 in
theorem zw_fmt : Jvm.Cond.fieldLink "java/lang/String" 1053 "jdk/internal/util/Preconditions" "SIOOBE_FORMATTER" "Ljava/util/function/BiFunction;" ∈ lw_tbl := zsub_4 (List.mem_of_getElem? (i := 55) rfl)
theorem zh_val (hx : p.tables.exec = Jvm.exec) (hb : c.code = b) (hts : ∀ w ∈ lw_tk, w.before args s = true) (hO : zOld w ad v0 B0 s s.heap) (hS : va_S (zA0 B0) s.heap H locs) (hown : s.vm.findClass "java/lang/String" = some m.cls) (ha : a < 0) (hk : (zK w a).1 = 40) (hd : decode b pc = .ok (.getfield 9, 3))
    (kk : W p l e R s m args below meth c H locs cells slots Q (F0 m (pc + 3) lsC (.ref (ad (zR w a 0)) :: rest))) : W p l e R s m args below meth c H locs cells slots Q (F0 m pc lsC (.ref (ad a) :: rest)) :=
  vk_getf hx hb (hO.2.1 a ha hk).2.2 hS hown (hts _ (zin zw_val rfl)) (fun _ h => h) hd kk
theorem zh_cod (hx : p.tables.exec = Jvm.exec) (hb : c.code = b) (hts : ∀ w ∈ lw_tk, w.before args s = true) (hO : zOld w ad v0 B0 s s.heap) (hS : va_S (zA0 B0) s.heap H locs) (hown : s.vm.findClass "java/lang/String" = some m.cls) (ha : a < 0) (hk : (zK w a).1 = 40) (hd : decode b pc = .ok (.getfield 15, 3))
    (kk : W p l e R s m args below meth c H locs cells slots Q (F0 m (pc + 3) lsC (.int 0 :: rest))) : W p l e R s m args below meth c H locs cells slots Q (F0 m pc lsC (.ref (ad a) :: rest)) :=
  vk_getf hx hb (hO.2.1 a ha hk).2.1 hS hown (hts _ (zin zw_cod rfl)) (fun _ h => h) hd kk
theorem zh_gs {C n d own ref : String} {v : Value} {index : Nat} (hx : p.tables.exec = Jvm.exec) (hb : c.code = b) (hts : ∀ w ∈ lw_tk, w.before args s = true) (hZ : va_Z C n d v (zA0 B0) s s.heap) (hS : va_S (zA0 B0) s.heap H locs) (hown : s.vm.findClass own = some m.cls) (hlink : Jvm.Cond.fieldLink own index ref n d ∈ lw_tbl) (hsame : ∀ x, s.fieldFound? C n d = some x → s.fieldFound? ref n d = some x)
    (hd : decode b pc = .ok (.getstatic index, 3)) (kk : W p l e R s m args below meth c H locs cells slots Q (F0 m (pc + 3) lsC (v :: rest))) : W p l e R s m args below meth c H locs cells slots Q (F0 m pc lsC rest) :=
  va_gets hx hb hZ hS hown (hts _ (zin hlink rfl)) hsame hd kk
theorem zh_ldcS {q : Nat × Nat × Int} (hx : p.tables.exec = Jvm.exec) (hb : c.code = b) (hO : zOld w ad v0 B0 s s.heap) (hown : s.vm.findClass (zcnOf q.1) = some m.cls) (hq : q ∈ zsis) (hd : decode b pc = .ok (.ldc q.2.1, 2))
    (kk : W p l e R s m args below meth c H locs cells slots Q (F0 m (pc + 2) lsC (.ref (ad q.2.2) :: rest))) : W p l e R s m args below meth c H locs cells slots Q (F0 m pc lsC rest) := by
  obtain ⟨t, ht⟩ := hO.2.2.2.2.2.2.2.2 q hq
  exact va_ldcS hx hb hown ht hd kk
end
