/-! Contracts of all methods; a call -/
theorem zcl_pos : ∀ (c : Nat) (r : vw_C), znth zcl c = some r → c ≠ 2 → 0 < r.2.2
  | 0, _, h, _ => by cases h; decide
  | 1, _, h, _ => by cases h; decide
  | 2, _, _, h => absurd rfl h
  | 3, _, h, _ => by cases h; decide
  | 4, _, h, _ => by cases h; decide
  | 5, _, h, _ => by cases h; decide
  | 6, _, h, _ => by cases h; decide
  | 7, _, h, _ => by cases h; decide
  | 8, _, h, _ => by cases h; decide
  | 9, _, h, _ => by cases h; decide
  | 10, _, h, _ => by cases h; decide
  | 11, _, h, _ => by cases h; decide
  | 12, _, h, _ => by cases h; decide
  | n + 13, _, h, _ => by cases h
theorem zKt_no3 : ((List.range zKt.length).all fun a => match znth zKt a with
    | some (c, n) => decide (c ≠ 3)
    | none => false) = true := by decide +kernel
theorem zK_no3 {w : zW} {a : Int} (ha : 0 < a) : (zK w a).1 ≠ 3 := by
  obtain ⟨n, rfl⟩ : ∃ n : Nat, a = (n : Int) := ⟨a.toNat, by omega⟩
  show ((znth zKt n).getD (0, 0)).1 ≠ 3
  cases hq : znth zKt n with
  | none => exact (by decide : (0 : Int) ≠ 3)
  | some q =>
    obtain ⟨c, k⟩ := q
    have h1 := List.all_eq_true.mp zKt_no3 n (List.mem_range.mpr (znth_len hq))
    rw [hq] at h1
    exact of_decide_eq_true h1
def zrm (d mc ms : Nat) : Room := { frames := d + 1, cells := mc, slots := ms, locals := 64 * (d + 1) }
noncomputable def zsl (w : zW) (n : Int) : Nat := ((List.range n.toNat).map fun i : Nat => (zK w (i : Int)).2.toNat).sum
theorem zsl_s (w : zW) {n : Int} (h : 0 ≤ n) : zsl w (n + 1) = zsl w n + (zK w n).2.toNat := by
  unfold zsl
  rw [show (n + 1).toNat = n.toNat + 1 by omega, List.range_succ, List.map_append, List.sum_append]
  rw [List.map_cons, List.map_nil, List.sum_cons, List.sum_nil, show ((n.toNat : Nat) : Int) = n by omega]
  omega
theorem zsl_add (w : zW) {n : Int} (h : 0 ≤ n) : ∀ k : Nat, zsl w n ≤ zsl w (n + k)
  | 0 => by rw [show n + ((0 : Nat) : Int) = n by omega]; exact Nat.le_refl _
  | k + 1 => by
    have := zsl_add w h k
    rw [show n + ((k + 1 : Nat) : Int) = (n + k) + 1 by omega, zsl_s w (by omega)]
    omega
theorem zsl_le (w : zW) {n m : Int} (h : 0 ≤ n) (hm : n ≤ m) : zsl w n ≤ zsl w m := by
  have := zsl_add w h (m - n).toNat
  rwa [show n + (((m - n).toNat : Nat) : Int) = m by omega] at this
/-- in the second phase all that never changes is set -/
noncomputable def zFl (w : zW) (σ : zMem) : Prop := ∀ a k : Int, 0 < a → a < σ 0 0 → 0 ≤ k → k < (zK w a).2 → zty w a k = 3 → σ a k = 1
theorem zFl_set {w : zW} {σ : zMem} {a k v : Int} (h : zFl w σ) (ha : 0 < a) (hk : zty w a k ≠ 3) : zFl w (zup σ a k v) := by
  intro a' k' g1 g2 g3 g4 g5
  rw [zup_n (fun q => by omega)] at g2
  by_cases e : a' = a ∧ k' = k
  · obtain ⟨rfl, rfl⟩ := e; exact absurd g5 hk
  · rw [zup_n e]; exact h a' k' g1 g2 g3 g4 g5
noncomputable def zB (w : zW) (D : va_G) (B0 : Nat) (ph : Bool) (σ : zMem) (u : (Int → Nat) × (Int → ClassId)) (t : State) : Prop := zWo w D B0 u.1 u.2 σ t t.heap ∧ (ph = true → zFl w σ)
def zag (cnt : Int) (ad : Int → Nat) (u : (Int → Nat) × (Int → ClassId)) : Prop := ∀ a : Int, a < cnt → u.1 a = ad a
noncomputable def zQc (w : zW) (D : va_G) (B0 : Nat) (ph : Bool) (k : Nat) (c n : Int) (cnt : Int) (ad : Int → Nat) (r : Int × zMem) : Array Value → State → Outcome → State → Prop := match k with
  | 0 => va_Qv (S := (Int → Nat) × (Int → ClassId)) (fun u => zag cnt ad u) (zB w D B0 ph r.2) (zA0 B0)
  | 2 => va_Ql (S := (Int → Nat) × (Int → ClassId)) (fun x u => x = Int64.ofInt r.1 ∧ zc64 r.1 ∧ zag cnt ad u) (zB w D B0 ph r.2) (zA0 B0)
  | 3 => va_Qr (S := (Int → Nat) × (Int → ClassId)) (fun u => zvr w (r.2 0 0) r.1 (c, n) ∧ zag cnt ad u) (fun u a t => a = u.1 r.1 ∧ zB w D B0 ph r.2 u t) (zA0 B0)
  | _ => va_Qi (S := (Int → Nat) × (Int → ClassId)) (fun x u => x = Int32.ofInt r.1 ∧ zc32 r.1 ∧ zag cnt ad u) (zB w D B0 ph r.2) (zA0 B0)
noncomputable def zSt (w : zW) (D : va_G) (B0 : Nat) (v0 : Value) (ph : Bool) (ad : Int → Nat) (ca : Int → ClassId) (σ : zMem) (U : State) : Prop :=
  zWo w D B0 ad ca σ U U.heap ∧ zKno U D ∧ zOld w ad v0 B0 U U.heap ∧ (∀ w ∈ lw_tk, w.before #[] U = true) ∧ B0 ≤ U.heap.size ∧ (ph = true → zFl w σ)
noncomputable def zPc (w : zW) (D : va_G) (B0 : Nat) (v0 : Value) (ph : Bool) (ad : Int → Nat) (ca : Int → ClassId) (σ : zMem) (as : List zV) : Array Value → State → Prop := va_Pc (as.map (zcv ad v0)) (zSt w D B0 v0 ph ad ca σ)
def zws (md : zMd) : List Jvm.Cond := [Jvm.Cond.code md.1 md.2.1 md.2.2.1 md.2.2.2.1]
def zrtP (y : Nat) : Int × Int := ((zrtagOf y)[0]?.getD 0, (zrtagOf y)[1]?.getD 0)
noncomputable def zMet (l : Launch) (w : zW) (D : va_G) (B0 : Nat) (v0 : Value) (ph : Bool) (d y : Nat) (as : List zV) (σ : zMem) (r : Int × zMem) : Prop :=
  ∀ md : zMd, znth zmd y = some md → ∀ (ad : Int → Nat) (ca : Int → ClassId), zvoks w (σ 0 0) as → (zspread as).length ≤ zml y → v0.category = 1 →
    Met l md.1 (zws md) (zrm d (r.2 0 0 - σ 0 0).toNat (zsl w (r.2 0 0) - zsl w (σ 0 0))) (zPc w D B0 v0 ph ad ca σ as) (zQc w D B0 ph (zkindOf md.2.2.2.1) (zrtP y).1 (zrtP y).2 (σ 0 0) ad r) (r.2 0 0 - σ 0 0).toNat (zsl w (r.2 0 0) - zsl w (σ 0 0)) (zA0 B0)
theorem zWo.moved {w : zW} {D : va_G} {B0 : Nat} {ad : Int → Nat} {ca : Int → ClassId} {σ : zMem} {s U : State} {H : Heap} (hvm : s.vm.Alike U.vm) (h : zWo w D B0 ad ca σ s H) : zWo w D B0 ad ca σ U H :=
  ⟨fun a g1 g2 => ⟨(h.1 a g1 g2).1, (h.1 a g1 g2).2.1, fun q => ((h.1 a g1 g2).2.2 q).moved hvm⟩, h.2⟩
theorem zKno.moved {s U : State} {D : va_G} (hvm : s.vm.Alike U.vm) (h : zKno s D) : zKno U D := fun c q hq h0 => u_Kn_moved hvm (h c q hq h0)
theorem zSt.moved {w : zW} {D : va_G} {B0 : Nat} {v0 : Value} {ph : Bool} {ad : Int → Nat} {ca : Int → ClassId} {σ : zMem} {s U : State} (h : zSt w D B0 v0 ph ad ca σ s) (hW : s.WarmedH U.vm) (hh : U.heap = s.heap) : zSt w D B0 v0 ph ad ca σ U := by
  obtain ⟨h1, h2, h3, h4, h5, h6⟩ := h
  unfold zSt
  rw [hh]
  exact ⟨h1.moved hW.alike, h2.moved hW.alike, h3.go hW (fun _ _ _ => rfl) (fun _ _ => rfl), zts_warm hW h4, h5, h6⟩
theorem zPc_blind {w : zW} {D : va_G} {B0 : Nat} {v0 : Value} {ph : Bool} {ad : Int → Nat} {ca : Int → ClassId} {σ : zMem} {as : List zV} : FrameBlind (zPc w D B0 v0 ph ad ca σ as) := fun a U g mk h => ⟨h.1, zSt.moved (U := U.calling g mk a) h.2 (State.WarmedH.refl U) rfl⟩
/-- what stands all along in one method: machine, code, tables -/
def zCx (p : Program) (s : State) (m : MethodId) (args : Array Value) (c : Code) (b : ByteArray) (nL own : Nat) (D : va_G) (B0 : Nat) : Prop :=
  p.tables.exec = Jvm.exec ∧ c.code = b ∧ c.maxLocals = nL ∧ s.vm.findClass (zcnOf own) = some m.cls ∧ (∀ w ∈ lw_tk, w.before args s = true) ∧ zKno s D ∧ B0 ≤ s.heap.size
noncomputable def zDy (w : zW) (D : va_G) (B0 : Nat) (v0 : Value) (ph : Bool) (s : State) (ad : Int → Nat) (ca : Int → ClassId) (σ : zMem) (H : Heap) (locs : List Loc) : Prop :=
  zWo w D B0 ad ca σ s H ∧ zOld w ad v0 B0 s s.heap ∧ va_S (zA0 B0) s.heap H locs ∧ (ph = true → zFl w σ)
theorem zOld.ad {w : zW} {ad ad' : Int → Nat} {v0 : Value} {B0 : Nat} {s : State} {H : Heap} (h : zOld w ad v0 B0 s H) (had : ∀ a : Int, a < 0 → ad' a = ad a) : zOld w ad' v0 B0 s H := h.go (State.WarmedH.refl s) (fun _ _ _ => rfl) had
theorem zDy.st {w : zW} {D : va_G} {B0 : Nat} {v0 : Value} {ph : Bool} {s U : State} {ad : Int → Nat} {ca : Int → ClassId} {σ : zMem} {H : Heap} {locs : List Loc} {args : Array Value} (h : zDy w D B0 v0 ph s ad ca σ H locs) (hK : zKno s D) (hts : ∀ w ∈ lw_tk, w.before args s = true) (hB : B0 ≤ s.heap.size) (hU : U.heap = H) (hW : s.WarmedH U.vm) : zSt w D B0 v0 ph ad ca σ U := by
  obtain ⟨h1, h2, h3, h4⟩ := h
  unfold zSt
  rw [hU]
  exact ⟨h1.moved hW.alike, hK.moved hW.alike, h2.go hW h3.2.1 (fun _ _ => rfl), zts_warm hW hts, Nat.le_trans hB h3.1, h4⟩
theorem zcats_sum {ad : Int → Nat} {v0 : Value} (hv : v0.category = 1) : ∀ l : List zV, ((l.map (zcv ad v0)).map fun v => v.category).sum = zcats l
  | [] => rfl
  | a :: l => by
    rw [List.map_cons, List.map_cons, List.sum_cons, zcats_sum hv l, zcats]
    congr 1
    rcases a with a | (a | (⟨x, y, z⟩ | a))
    · rfl
    · rfl
    · rfl
    · exact hv
theorem zcv_ad {w : zW} {cnt : Int} {ad ad' : Int → Nat} {v0 : Value} (h : ∀ a : Int, a < cnt → ad' a = ad a) {v : zV} (hv : zvok w cnt v) : zcv ad' v0 v = zcv ad v0 v := by
  rcases v with v | (v | (⟨x, y, z⟩ | v))
  · rfl
  · rfl
  · show Value.ref (ad' z) = Value.ref (ad z)
    rw [h z hv.2.2]
  · rfl
theorem zmap_ad {w : zW} {cnt : Int} {ad ad' : Int → Nat} {v0 : Value} (h : ∀ a : Int, a < cnt → ad' a = ad a) : ∀ {l : List zV}, zvoks w cnt l → l.map (zcv ad' v0) = l.map (zcv ad v0)
  | [], _ => rfl
  | a :: l, hl => by rw [List.map_cons, List.map_cons, zcv_ad h (zvoks_cons.mp hl).1, zmap_ad h (zvoks_cons.mp hl).2]
theorem zlv_ad {w : zW} {cnt : Int} {ad ad' : Int → Nat} {v0 : Value} (h : ∀ a : Int, a < cnt → ad' a = ad a) : ∀ {l : List zV} (i : Nat), zvoks w cnt l → zlv ad' v0 i l = zlv ad v0 i l
  | [], _, _ => rfl
  | a :: l, i, hl => by rw [zlv, zlv, zcv_ad h (zvoks_cons.mp hl).1, zlv_ad h (i + 1) (zvoks_cons.mp hl).2]
theorem zvok_up {w : zW} {n n' : Int} (h : n ≤ n') {v : zV} (hv : zvok w n v) : zvok w n' v := by
  rcases v with v | (v | (⟨x, y, z⟩ | v))
  · exact hv
  · exact hv
  · obtain ⟨a, b, c⟩ := hv
    exact ⟨a, b, by omega⟩
  · trivial
theorem zvoks_up {w : zW} {n n' : Int} (h : n ≤ n') {l : List zV} (hl : zvoks w n l) : zvoks w n' l := fun v hv => zvok_up h (hl v hv)
/-- checks of the methods' table: locals, what they answer -/
def zretOK : Option FieldType → Bool
  | none => true
  | some .int => true
  | some .long => true
  | some .boolean => true
  | some .char => true
  | some .byte => true
  | some (.object _) => true
  | some (.array _) => true
  | _ => false
theorem zmd_all : ((List.range 352).all fun y => match znth zmd y with
    | some q => Nat.beq q.2.2.1 (zml y) && Nat.ble (zml y) 40 && zretOK q.2.2.2.1
    | none => false) = true := by decide +kernel
theorem zmd_len : zmd.length = 352 := by decide +kernel
theorem zmd_get {y : Nat} {md : zMd} (h : znth zmd y = some md) : zmOK md ∧ md.2.2.1 = zml y ∧ zml y ≤ 40 ∧ zretOK md.2.2.2.1 = true := by
  have hl : y < 352 := by have := znth_len h; rwa [zmd_len] at this
  have h1 := List.all_eq_true.mp zmd_all y (List.mem_range.mpr hl)
  rw [h] at h1
  simp only [Bool.and_eq_true] at h1
  refine ⟨zmd_ok md ?_, Nat.eq_of_beq_eq_true h1.1.1, Nat.le_of_ble_eq_true h1.1.2, h1.2⟩
  rw [znth_get] at h
  exact List.mem_of_getElem? h
section
variable {p : Program} {l : Launch} {e : Env} {R : Room} {s : State} {m : MethodId} {args : Array Value} {below : List Frame} {meth : Method} {c : Code} {H : Heap} {locs : List Loc} {cells slots : Nat} {Q : State → Prop}
variable {w : zW} {D : va_G} {B0 : Nat} {v0 : Value} {ph : Bool} {ad : Int → Nat} {ca : Int → ClassId} {σ : zMem} {b : ByteArray} {off nL own : Nat} {lsC : Array Slot} {rest st0 : List Value}
/-- behind a call -/
theorem zafter {mc ms k : Nat} {tc tn : Int} {r : Int × zMem} {a : Array Value} (hr : va_Run p l e R s m args below meth c H locs cells slots mc ms (F0 m off lsC st0) rest (zQc w D B0 ph k tc tn (σ 0 0) ad r a) (zA0 B0)) (hD : zDy w D B0 v0 ph s ad ca σ H locs)
    (kk : ∀ (ad' : Int → Nat) (ca' : Int → ClassId) (H' : Heap) (locs' : List Loc), (∀ a : Int, a < σ 0 0 → ad' a = ad a) → zDy w D B0 v0 ph s ad' ca' r.2 H' locs' → zvoks w (r.2 0 0) (zpush k tc tn r.1 []) →
      W p l e R s m args below meth c H' locs' (cells + mc) (slots + ms) Q (F0 m (off + 3) lsC ((zpush k tc tn r.1 []).map (zcv ad' v0) ++ rest))) : W p l e R s m args below meth c H locs cells slots Q (F0 m off lsC st0) := by
  obtain ⟨hWo, hO, hS, hF⟩ := hD
  have hn : 1 ≤ σ 0 0 := hWo.2.2.2.2.1
  have mk : ∀ (u : (Int → Nat) × (Int → ClassId)) (t : State) (H1 : Heap) (locs1 : List Loc), t.heap = H1 → s.vm.Alike t.vm → zag (σ 0 0) ad u → zB w D B0 ph r.2 u t → va_S (zA0 B0) s.heap H1 locs1 → zDy w D B0 v0 ph s u.1 u.2 r.2 H1 locs1 := by
    intro u t H1 locs1 e1 hvm ha hb hS1
    obtain ⟨hb1, hb2⟩ := hb
    rw [e1] at hb1
    exact ⟨hb1.moved hvm.symm, hO.ad (fun a q => ha a (by omega)), hS1, hb2⟩
  rcases k with _ | _ | _ | _ | k
  · refine va_callv (a := a) hr hS (fun _ _ h => h) (fun _ h => h) fun u t H1 locs1 e1 hvm hp hb hz hk hS1 => ?_
    exact kk u.1 u.2 H1 locs1 hp (mk u t H1 locs1 e1 hvm hp hb hS1) (fun _ h => by cases h)
  · refine va_calli (a := a) hr hS (fun _ _ h => h) (fun _ h => h) fun x u t H1 locs1 e1 hvm hp hb hz hk hS1 => ?_
    obtain ⟨hx, hc, ha⟩ := hp
    subst hx
    exact kk u.1 u.2 H1 locs1 ha (mk u t H1 locs1 e1 hvm ha hb hS1) (zvoks_cons.mpr ⟨hc, fun _ h => by cases h⟩)
  · refine va_calll (a := a) hr hS (fun _ _ h => h) (fun _ h => h) fun x u t H1 locs1 e1 hvm hp hb hz hk hS1 => ?_
    obtain ⟨hx, hc, ha⟩ := hp
    subst hx
    exact kk u.1 u.2 H1 locs1 ha (mk u t H1 locs1 e1 hvm ha hb hS1) (zvoks_cons.mpr ⟨hc, fun _ h => by cases h⟩)
  · refine va_callr (a := a) hr hS (fun _ _ h => h) (fun _ h => h) fun u ra t H1 locs1 e1 hvm hp hb hz hk hS1 => ?_
    obtain ⟨hc, ha⟩ := hp
    obtain ⟨hx, hb⟩ := hb
    subst hx
    exact kk u.1 u.2 H1 locs1 ha (mk u t H1 locs1 e1 hvm ha hb hS1) (zvoks_cons.mpr ⟨hc, fun _ h => by cases h⟩)
  · refine va_calli (a := a) hr hS (fun _ _ h => h) (fun _ h => h) fun x u t H1 locs1 e1 hvm hp hb hz hk hS1 => ?_
    obtain ⟨hx, hc, ha⟩ := hp
    subst hx
    exact kk u.1 u.2 H1 locs1 ha (mk u t H1 locs1 e1 hvm ha hb hS1) (zvoks_cons.mpr ⟨hc, fun _ h => by cases h⟩)
theorem zgood1 {md : zMd} (h : zmOK md) : GoodIn lw_tk (zws md) := by
  intro w hw
  have : w = _ := List.mem_singleton.mp hw
  subst this
  exact ⟨zin h.1 rfl, Or.inl rfl⟩
theorem zdesc {md : zMd} (h : zmOK md) : md.1.cls ≠ "java/lang/invoke/MethodHandle" ∧ md.1.cls ≠ "java/lang/invoke/VarHandle" ∧ (parseMethodDescriptor md.1.desc).map (fun d => d.parameters.length) = some md.2.2.2.2.2.1 := ⟨h.2.2.2.2.1.1, h.2.2.2.2.1.2, h.2.2.1⟩
theorem zroom {d mc ms : Nat} {y : Nat} {md : zMd} (hm : md.2.2.1 = zml y) (h40 : zml y ≤ 40) (hf : d + 2 ≤ R.frames) (hl : 64 * (d + 2) ≤ R.locals) : (zrm d mc ms).frames + 1 ≤ R.frames ∧ 8 + (md.2.2.1 + 11) + (zrm d mc ms).locals ≤ R.locals :=
  ⟨hf, by show 8 + (md.2.2.1 + 11) + 64 * (d + 1) ≤ R.locals; omega⟩
theorem zwarm_hts {w : Jvm.Cond} (hts : ∀ w ∈ lw_tk, w.before args s = true) (h : w ∈ lw_tbl) (hk : zwk w = true) : w.before args s = true := hts _ (zin h hk)
variable {d y : Nat} {md : zMd} {r : Int × zMem} {host : String} {idx : Nat} {as t2 : List zV}
/-- an answer's place, whether the entry goes to a nest mate or not -/
theorem zh_callS (hC : zCx p s m args c b nL own D B0) (hD : zDy w D B0 v0 ph s ad ca σ H locs) (hv : v0.category = 1) (hl : lsC.size = nL) (hmd : znth zmd y = some md) (hst : md.2.2.2.2.1 = true) (hM : zMet l w D B0 v0 ph d y as σ r) (hvo : zvoks w (σ 0 0) as) (hfit : (zspread as).length ≤ zml y)
    (hn : as.length = md.2.2.2.2.2.1) (hlink : (host = "" → Jvm.Cond.methodLink (zcnOf own) idx md.1 ∈ lw_tbl) ∧ (host ≠ "" → Jvm.Cond.methodLinkNest (zcnOf own) idx md.1 host ∈ lw_tbl)) (hcat : zcats t2 ≤ 8) (hf : d + 2 ≤ R.frames) (hlo : 64 * (d + 2) ≤ R.locals)
    (hcells : cells + (r.2 0 0 - σ 0 0).toNat ≤ R.cells) (hslots : slots + (zsl w (r.2 0 0) - zsl w (σ 0 0)) ≤ R.slots) (hd : decode b off = .ok (.invokestatic idx, 3)) :
    va_Run p l e R s m args below meth c H locs cells slots (r.2 0 0 - σ 0 0).toNat (zsl w (r.2 0 0) - zsl w (σ 0 0)) (F0 m off lsC ((as.reverse ++ t2).map (zcv ad v0))) (t2.map (zcv ad v0)) (zQc w D B0 ph (zkindOf md.2.2.2.1) (zrtP y).1 (zrtP y).2 (σ 0 0) ad r (as.map (zcv ad v0)).toArray) (zA0 B0) := by
  obtain ⟨hx, hb, hml, hown, hts, hK, hB⟩ := hC
  obtain ⟨hOK, hm1, hm2, -⟩ := zmd_get hmd
  have hMt := hM md hmd ad ca hvo hfit hv
  have hstat := zwarm_hts hts (hOK.2.2.2.2.2.2.1 hst) rfl
  have hini := zwarm_hts hts hOK.2.1 rfl
  have hPS : PreS s H (zPc w D B0 v0 ph ad ca σ as) (as.map (zcv ad v0)) := ⟨zPc_blind, fun U hU hW => ⟨rfl, hD.st hK hts hB hU hW⟩⟩
  have hcat2 : 2 * (F0 m off lsC ((as.reverse ++ t2).map (zcv ad v0))).monitorRoom + ((t2.map (zcv ad v0)).map fun v => v.category).sum ≤ 8 := by
    rw [zcats_sum hv]
    show 2 * 0 + zcats t2 ≤ 8
    omega
  have hstk : (F0 m off lsC ((as.reverse ++ t2).map (zcv ad v0))).stack = (as.map (zcv ad v0)).reverse ++ t2.map (zcv ad v0) := by
    show (as.reverse ++ t2).map (zcv ad v0) = _
    rw [List.map_append, List.map_reverse]
  by_cases hh : host = ""
  · exact va_runS (As := as.map (zcv ad v0)) (rest := t2.map (zcv ad v0)) (own := zcnOf own) ⟨hx, hb, hml, hown, hts⟩ hMt ⟨callB_of md.2.2.2.2.2.1 hts (zgood1 hOK) rfl rfl rfl hini (zwarm_hts hts (hlink.1 hh) rfl) (zdesc hOK) (zroom hm1 hm2 hf hlo), hstat⟩ hPS rfl (by rw [List.length_map]; exact hn) hl hstk hcat2 hd ⟨hcells, hslots⟩
  · exact va_runSN (As := as.map (zcv ad v0)) (rest := t2.map (zcv ad v0)) (own := zcnOf own) ⟨hx, hb, hml, hown, hts⟩ hMt ⟨va_cnB md.2.2.2.2.2.1 hts (zgood1 hOK) rfl rfl rfl (va_Nw.of rfl (zwarm_hts hts (hlink.2 hh) rfl)) hini (zdesc hOK) (zroom hm1 hm2 hf hlo), hstat, trivial⟩ hPS rfl (by rw [List.length_map]; exact hn) hl hstk hcat2 hd ⟨hcells, hslots⟩
theorem zgoodV {md : zMd} (h : zmOK md) (h1 : Jvm.Cond.methodLink (zcnOf own) idx md.1 ∈ lw_tbl) (h2 : Jvm.Cond.instanceMethod md.1 ∈ lw_tbl) (h3 : Jvm.Cond.selects md.1.cls md.1 md.1 ∈ lw_tbl) : GoodIn lw_tk (wsV (zcnOf own) idx md.1.cls md.1 (zws md)) := by
  intro w hw
  simp only [wsV, zws, List.mem_append, List.mem_cons, List.not_mem_nil, or_false] at hw
  rcases hw with (rfl | rfl | rfl | rfl) | rfl
  · exact ⟨zin h1 rfl, Or.inl rfl⟩
  · exact ⟨zin h2 rfl, Or.inl rfl⟩
  · exact ⟨zin h3 rfl, Or.inl rfl⟩
  · exact ⟨zin h.2.1 rfl, Or.inl rfl⟩
  · exact ⟨zin h.1 rfl, Or.inl rfl⟩
variable {tc tn ra : Int}
/-- the receiver's cell -/
theorem zrcv (hC : zCx p s m args c b nL own D B0) (hD : zDy w D B0 v0 ph s ad ca σ H locs) (hvo : zvok w (σ 0 0) (zA tc tn ra)) {oc : Nat} (hoc : tc = if oc = 17 then 40 else (oc : Int)) (ho : (0 < oc ∧ oc ≤ 13) ∨ oc = 17) : ∃ cellB : Cell, H[ad ra]? = some cellB ∧ cellB.vm.isStatics = false ∧ s.vm.findClass (zcnOf oc) = some cellB.cls := by
  obtain ⟨hx, hb, hml, hown, hts, hK, hB⟩ := hC
  obtain ⟨hWo, hO, hS, hF⟩ := hD
  obtain ⟨hk, h0, hlt⟩ := hvo
  have hk1 : (zK w ra).1 = tc := by rw [hk]
  rcases ho with ho | ho
  · rw [if_neg (by omega)] at hoc
    have hpos : 0 < ra := zpos (w := w) h0 (by omega) (by omega) (by omega) (by omega)
    have hce := (hWo.1 ra hpos hlt).1
    unfold zce at hce
    rw [if_pos (by omega)] at hce
    obtain ⟨q, h1, cell, q1, q2, q3, q4⟩ := hce
    rw [show ((zK w ra).1 - 1).toNat = oc - 1 by omega] at h1 q2
    obtain ⟨hSl, hfc, -⟩ := hK _ _ h1 (zcl_pos _ _ h1 (by have := zK_no3 (w := w) hpos; omega))
    refine ⟨cell, q1, by rw [q3]; rfl, ?_⟩
    rw [q2, ← hfc]
    congr 1
    have hz : ((List.range 13).all fun c => match znth zcl c with
      | some r => r.1 == zcnOf (c + 1)
      | none => false) = true := by decide +kernel
    have hz1 := List.all_eq_true.mp hz (oc - 1) (List.mem_range.mpr (by omega))
    rw [h1] at hz1
    rw [eq_of_beq hz1, show oc - 1 + 1 = oc by omega]
  · subst ho
    rw [if_pos rfl] at hoc
    have hneg : ra < 0 := by
      by_cases h : ra < 0
      · exact h
      · have h1 := hWo.1 ra (by omega) hlt
        have h2 := hWo.2.2.2.2.2 ra (by omega) hlt
        exfalso
        obtain ⟨n, rfl⟩ : ∃ n : Nat, ra = (n : Int) := ⟨ra.toNat, by omega⟩
        have hz : ((List.range zKt.length).all fun a => match znth zKt a with
          | some (c, n) => decide (c ≠ 40)
          | none => false) = true := by decide +kernel
        have e : zK w (n : Int) = (znth zKt n).getD (0, 0) := rfl
        rw [e] at hk1
        cases hq : znth zKt n with
        | none => rw [hq] at hk1; have : (0 : Int) = tc := hk1; omega
        | some q =>
          rw [hq] at hk1
          have hz1 := List.all_eq_true.mp hz n (List.mem_range.mpr (znth_len hq))
          rw [hq] at hz1
          have := of_decide_eq_true hz1
          exact this (hk1.trans hoc)
    obtain ⟨cell, h1, h2, h3, -⟩ := ((hO.2.1 ra hneg (by omega)).1).kept hS.2.1
    exact ⟨cell, h1, h2, h3⟩
theorem zh_callV (hC : zCx p s m args c b nL own D B0) (hD : zDy w D B0 v0 ph s ad ca σ H locs) (hv : v0.category = 1) (hl : lsC.size = nL) (hmd : znth zmd y = some md) (hst : md.2.2.2.2.1 = false) (hsel : Jvm.Cond.selects md.1.cls md.1 md.1 ∈ lw_tbl) (hM : zMet l w D B0 v0 ph d y (zA tc tn ra :: as) σ r) (hvo : zvoks w (σ 0 0) (zA tc tn ra :: as)) (hfit : (zspread (zA tc tn ra :: as)).length ≤ zml y)
    (hoc : tc = if md.2.2.2.2.2.2 = 17 then 40 else (md.2.2.2.2.2.2 : Int)) (ho : (0 < md.2.2.2.2.2.2 ∧ md.2.2.2.2.2.2 ≤ 13) ∨ md.2.2.2.2.2.2 = 17)
    (hn : as.length = md.2.2.2.2.2.1) (hlink : (host = "" → Jvm.Cond.methodLink (zcnOf own) idx md.1 ∈ lw_tbl) ∧ (host ≠ "" → Jvm.Cond.methodLinkNest (zcnOf own) idx md.1 host ∈ lw_tbl)) (hcat : zcats t2 ≤ 8) (hf : d + 2 ≤ R.frames) (hlo : 64 * (d + 2) ≤ R.locals)
    (hcells : cells + (r.2 0 0 - σ 0 0).toNat ≤ R.cells) (hslots : slots + (zsl w (r.2 0 0) - zsl w (σ 0 0)) ≤ R.slots) (hd : decode b off = .ok (.invokevirtual idx, 3)) :
    va_Run p l e R s m args below meth c H locs cells slots (r.2 0 0 - σ 0 0).toNat (zsl w (r.2 0 0) - zsl w (σ 0 0)) (F0 m off lsC ((as.reverse ++ zA tc tn ra :: t2).map (zcv ad v0))) (t2.map (zcv ad v0)) (zQc w D B0 ph (zkindOf md.2.2.2.1) (zrtP y).1 (zrtP y).2 (σ 0 0) ad r (Value.ref (ad ra) :: as.map (zcv ad v0)).toArray) (zA0 B0) := by
  have hrc := zrcv hC hD (zvoks_cons.mp hvo).1 hoc ho
  obtain ⟨hx, hb, hml, hown, hts, hK, hB⟩ := hC
  obtain ⟨hOK, hm1, hm2, -⟩ := zmd_get hmd
  have hMt := hM md hmd ad ca hvo hfit hv
  obtain ⟨hi1, hi2⟩ := hOK.2.2.2.2.2.2.2 hst
  rw [← hOK.2.2.2.1] at hrc
  have hini := zwarm_hts hts hOK.2.1 rfl
  have hPV : PreV s H md.1.cls (ad ra) (zPc w D B0 v0 ph ad ca σ (zA tc tn ra :: as)) (as.map (zcv ad v0)) := ⟨zPc_blind, hrc, fun U hU hW => ⟨rfl, hD.st hK hts hB hU hW⟩⟩
  have hcat2 : 2 * (F0 m off lsC ((as.reverse ++ zA tc tn ra :: t2).map (zcv ad v0))).monitorRoom + ((t2.map (zcv ad v0)).map fun v => v.category).sum ≤ 8 := by
    rw [zcats_sum hv]
    show 2 * 0 + zcats t2 ≤ 8
    omega
  have hstk : (F0 m off lsC ((as.reverse ++ zA tc tn ra :: t2).map (zcv ad v0))).stack = (as.map (zcv ad v0)).reverse ++ Value.ref (ad ra) :: t2.map (zcv ad v0) := by
    show (as.reverse ++ zA tc tn ra :: t2).map (zcv ad v0) = _
    rw [List.map_append, List.map_reverse]
    rfl
  by_cases hh : host = ""
  · exact va_runV (As := as.map (zcv ad v0)) (rest := t2.map (zcv ad v0)) (own := zcnOf own) ⟨hx, hb, hml, hown, hts⟩ hMt (cwV md.2.2.2.2.2.1 hts (zgoodV hOK (hlink.1 hh) hi1 hsel) rfl rfl rfl ⟨rfl, zdesc hOK⟩ (zroom hm1 hm2 hf hlo)) hPV rfl (by rw [List.length_map]; exact hn) hl hstk hcat2 hd ⟨hcells, hslots⟩
  · exact va_runVN (As := as.map (zcv ad v0)) (rest := t2.map (zcv ad v0)) (own := zcnOf own) ⟨hx, hb, hml, hown, hts⟩ hMt ⟨va_cnB md.2.2.2.2.2.1 hts (zgood1 hOK) rfl rfl rfl (va_Nw.of rfl (zwarm_hts hts (hlink.2 hh) rfl)) hini (zdesc hOK) (zroom hm1 hm2 hf hlo), zwarm_hts hts hi1 rfl, zwarm_hts hts hsel rfl⟩ hPV rfl (by rw [List.length_map]; exact hn) hl hstk hcat2 hd ⟨hcells, hslots⟩
theorem zh_callI (hC : zCx p s m args c b nL own D B0) (hD : zDy w D B0 v0 ph s ad ca σ H locs) (hv : v0.category = 1) (hl : lsC.size = nL) (hmd : znth zmd y = some md) (hst : md.2.2.2.2.1 = false) (hini0 : md.1.name = "<init>") (hret : md.2.2.2.1 = none) (hM : zMet l w D B0 v0 ph d y (zA tc tn ra :: as) σ r) (hvo : zvoks w (σ 0 0) (zA tc tn ra :: as)) (hfit : (zspread (zA tc tn ra :: as)).length ≤ zml y)
    (hn : as.length = md.2.2.2.2.2.1) (hlink : (host = "" → Jvm.Cond.methodLink (zcnOf own) idx md.1 ∈ lw_tbl) ∧ (host ≠ "" → Jvm.Cond.methodLinkNest (zcnOf own) idx md.1 host ∈ lw_tbl)) (hcat : zcats t2 ≤ 8) (hf : d + 2 ≤ R.frames) (hlo : 64 * (d + 2) ≤ R.locals)
    (hcells : cells + (r.2 0 0 - σ 0 0).toNat ≤ R.cells) (hslots : slots + (zsl w (r.2 0 0) - zsl w (σ 0 0)) ≤ R.slots) (hd : decode b off = .ok (.invokespecial idx, 3)) :
    va_Run p l e R s m args below meth c H locs cells slots (r.2 0 0 - σ 0 0).toNat (zsl w (r.2 0 0) - zsl w (σ 0 0)) (F0 m off lsC ((as.reverse ++ zA tc tn ra :: t2).map (zcv ad v0))) (t2.map (zcv ad v0)) (zQc w D B0 ph (zkindOf md.2.2.2.1) (zrtP y).1 (zrtP y).2 (σ 0 0) ad r (Value.ref (ad ra) :: as.map (zcv ad v0)).toArray) (zA0 B0) := by
  obtain ⟨hx, hb, hml, hown, hts, hK, hB⟩ := hC
  obtain ⟨hOK, hm1, hm2, -⟩ := zmd_get hmd
  have hMt := hM md hmd ad ca hvo hfit hv
  obtain ⟨hi1, -⟩ := hOK.2.2.2.2.2.2.2 hst
  have hini := zwarm_hts hts hOK.2.1 rfl
  have hws : zws md = Jvm.Cond.code md.1 md.2.1 md.2.2.1 none :: [] := by unfold zws; rw [hret]
  have hPS : PreS s H (zPc w D B0 v0 ph ad ca σ (zA tc tn ra :: as)) (Value.ref (ad ra) :: as.map (zcv ad v0)) := ⟨zPc_blind, fun U hU hW => ⟨rfl, hD.st hK hts hB hU hW⟩⟩
  have hcat2 : 2 * (F0 m off lsC ((as.reverse ++ zA tc tn ra :: t2).map (zcv ad v0))).monitorRoom + ((t2.map (zcv ad v0)).map fun v => v.category).sum ≤ 8 := by
    rw [zcats_sum hv]
    show 2 * 0 + zcats t2 ≤ 8
    omega
  have hstk : (F0 m off lsC ((as.reverse ++ zA tc tn ra :: t2).map (zcv ad v0))).stack = (as.map (zcv ad v0)).reverse ++ Value.ref (ad ra) :: t2.map (zcv ad v0) := by
    show (as.reverse ++ zA tc tn ra :: t2).map (zcv ad v0) = _
    rw [List.map_append, List.map_reverse]
    rfl
  by_cases hh : host = ""
  · exact va_runI (As := as.map (zcv ad v0)) (rest := t2.map (zcv ad v0)) (own := zcnOf own) ⟨hx, hb, hml, hown, hts⟩ hMt ⟨callB_of md.2.2.2.2.2.1 hts (zgood1 hOK) hws rfl rfl hini (zwarm_hts hts (hlink.1 hh) rfl) (zdesc hOK) (zroom hm1 hm2 hf hlo), hini0, zwarm_hts hts hi1 rfl⟩ hPS rfl (by rw [List.length_map]; exact hn) hl hstk hcat2 hd ⟨hcells, hslots⟩
  · exact va_runIN (As := as.map (zcv ad v0)) (rest := t2.map (zcv ad v0)) (own := zcnOf own) ⟨hx, hb, hml, hown, hts⟩ hMt ⟨va_cnB md.2.2.2.2.2.1 hts (zgood1 hOK) hws rfl rfl (va_Nw.of rfl (zwarm_hts hts (hlink.2 hh) rfl)) hini (zdesc hOK) (zroom hm1 hm2 hf hlo), hini0, zwarm_hts hts hi1 rfl⟩ hPS rfl (by rw [List.length_map]; exact hn) hl hstk hcat2 hd ⟨hcells, hslots⟩
end
