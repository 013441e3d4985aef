/-! One instruction: the JVM does what the machine does -/
theorem zri_some {r : Int × zMem} {st : List zV} {f : Int → Int → Int → Int → List zV → Option (Int × zMem)} (h : zri none st f = some r) : ∃ c n a i st', st = zI i :: zA c n a :: st' ∧ f c n a i st' = some r := by
  rcases st with _ | ⟨(i | i), _ | ⟨(x | (x | (⟨c, n, a⟩ | x))), st⟩⟩ <;> first | exact ⟨_, _, _, _, _, rfl, h⟩ | cases h
theorem zrii_some {r : Int × zMem} {st : List zV} {f : Int → Int → Int → Int → Int → List zV → Option (Int × zMem)} (h : zrii none st f = some r) : ∃ c n a i x st', st = zI x :: zI i :: zA c n a :: st' ∧ f c n a i x st' = some r := by
  rcases st with _ | ⟨(v | v), _ | ⟨(i | i), _ | ⟨(x | (x | (⟨c, n, a⟩ | x))), st⟩⟩⟩ <;> first | exact ⟨_, _, _, _, _, _, rfl, h⟩ | cases h
theorem zrij_some {r : Int × zMem} {st : List zV} {f : Int → Int → Int → Int → Int → List zV → Option (Int × zMem)} (h : zrij none st f = some r) : ∃ c n a i x st', st = zJ x :: zI i :: zA c n a :: st' ∧ f c n a i x st' = some r := by
  rcases st with _ | ⟨(v | (v | v)), _ | ⟨(i | i), _ | ⟨(x | (x | (⟨c, n, a⟩ | x))), st⟩⟩⟩ <;> first | exact ⟨_, _, _, _, _, _, rfl, h⟩ | cases h
theorem zrir_some {r : Int × zMem} {st : List zV} {f : Int → Int → Int → Int → Int → Int → Int → List zV → Option (Int × zMem)} (h : zrir none st f = some r) : ∃ c n a i c2 n2 x st', st = zA c2 n2 x :: zI i :: zA c n a :: st' ∧ f c n a i c2 n2 x st' = some r := by
  rcases st with _ | ⟨(v | (v | (⟨c2, n2, v⟩ | v))), _ | ⟨(i | i), _ | ⟨(x | (x | (⟨c, n, a⟩ | x))), st⟩⟩⟩ <;> first | exact ⟨_, _, _, _, _, _, _, _, rfl, h⟩ | cases h
theorem zite_some {α : Type} {c : Prop} {h : Decidable c} {x : Option α} {r : α} (q : @ite _ c h x none = some r) : c ∧ x = some r := by
  by_cases hc : c
  · rw [if_pos hc] at q; exact ⟨hc, q⟩
  · rw [if_neg hc] at q; cases q
/-- objects that were there have numbers below 0 -/
theorem zKt_old : ((List.range zKt.length).all fun a => match znth zKt a with
    | some (c, n) => decide (c ≠ 23 ∧ c ≠ 24 ∧ c ≠ 40)
    | none => false) = true := by decide +kernel
theorem zold_neg {w : zW} {a : Int} (h : (zK w a).1 = 23 ∨ (zK w a).1 = 24 ∨ (zK w a).1 = 40) : a < 0 := by
  by_cases q : a < 0
  · exact q
  · exfalso
    obtain ⟨n, rfl⟩ : ∃ n : Nat, a = (n : Int) := ⟨a.toNat, by omega⟩
    have e : zK w (n : Int) = (znth zKt n).getD (0, 0) := rfl
    rw [e] at h
    cases hq : znth zKt n with
    | none =>
      rw [hq] at h
      rcases h with h | h | h <;> exact absurd h (by decide)
    | some x =>
      obtain ⟨cc, k⟩ := x
      rw [hq] at h
      have h1 := List.all_eq_true.mp zKt_old n (List.mem_range.mpr (znth_len hq))
      rw [hq] at h1
      have h2 : cc ≠ 23 ∧ cc ≠ 24 ∧ cc ≠ 40 := of_decide_eq_true h1
      have h3 : cc = 23 ∨ cc = 24 ∨ cc = 40 := h
      omega
theorem zsis_K {w : zW} : ∀ q ∈ zsis, zK w q.2.2 = (40, 0) ∧ q.2.2 < 0 := by
  intro q hq
  have h : (zsis.all fun q => decide (zK zw0 q.2.2 = (40, 0)) && decide (q.2.2 < -1)) = true := by decide +kernel
  have h1 := List.all_eq_true.mp h q hq
  simp only [Bool.and_eq_true, decide_eq_true_eq] at h1
  obtain ⟨n, -, e2, -, -⟩ := zng (w := w) (a := q.2.2) (by omega) (by omega)
  exact ⟨e2.trans h1.1, by omega⟩
theorem zfds_ty : ∀ q ∈ zfds, q.2.2.1 = 1 ∨ q.2.2.1 = 2 ∨ q.2.2.1 = 3 ∨ q.2.2.1 = 6 := by
  intro q hq
  have h : (zfds.all fun q => decide (q.2.2.1 = 1 ∨ q.2.2.1 = 2 ∨ q.2.2.1 = 3 ∨ q.2.2.1 = 6)) = true := by decide +kernel
  exact of_decide_eq_true (List.all_eq_true.mp h q hq)
theorem zty_fd {w : zW} {a : Int} {cc k ty : Nat} {c2 n2 : Int} {fin : Bool} (h : (cc, k, ty, c2, n2, fin) ∈ zfds) (hk : (zK w a).1 = (cc : Int)) : cc ≤ 13 ∧ 0 < cc ∧ zty w a k = ty ∧ ztg w a k = (c2, n2) := by
  have h1 := zfind_u _ h
  obtain ⟨r, h2, h3, -⟩ := zfds_ok _ h
  have h4 : cc - 1 < 13 := znth_len h2
  have h3 : 0 < cc := h3
  have h1 : zfind (cc : Int) (k : Int) = some (cc, k, ty, c2, n2, fin) := h1
  refine ⟨by omega, h3, ?_, ?_⟩
  · unfold zty
    rw [hk, if_pos (by omega), h1]
  · unfold ztg
    rw [hk, if_pos (by omega), h1]
/-- more that is checked of all code -/
def zinits : List Nat := [0, 10, 35, 41, 48, 62, 80, 92, 109, 124, 137, 212]
def zxtra (q : zQ) : Bool := match q.2.1 with
  | .getfield _ => match q.2.2.1 with
    | [_, _, ty] => ty != 6
    | _ => true
  | .invokespecial _ => match q.2.2.1 with
    | [_, yy, _, 0] => zmem zinits yy
    | _ => true
  | .invokevirtual _ => match q.2.2.1 with
    | [_, yy, _, _] => zmem zvl yy
    | _ => true
  | _ => true
set_option maxRecDepth 100000 in
theorem zxtra_all : (zcode.all fun c => c.all zxtra) = true := by decide +kernel
theorem zmem_in : ∀ {l : List Nat} {x : Nat}, zmem l x = true → x ∈ l
  | [], _, h => by cases h
  | a :: l, x, h => by
    rw [zmem] at h
    cases hb : Nat.beq a x with
    | true => rw [Nat.eq_of_beq_eq_true hb]; exact List.mem_cons_self
    | false => rw [hb] at h; exact List.mem_cons_of_mem _ (zmem_in h)
set_option maxRecDepth 100000 in
theorem zinits_ok : ∀ y ∈ zinits, ∀ md, znth zmd y = some md → md.1.name = "<init>" ∧ md.2.2.2.1 = none ∧ md.2.2.2.2.1 = false := by
  intro y hy md h
  simp only [zinits, List.mem_cons, List.not_mem_nil, or_false] at hy
  rcases hy with rfl | rfl | rfl | rfl | rfl | rfl | rfl | rfl | rfl | rfl | rfl | rfl <;> (cases h; exact ⟨rfl, rfl, rfl⟩)
def zGd (meth : Method) (ini : Bool) (w : zW) (D : va_G) (B0 : Nat) (v0 : Value) (ph : Bool) (s : State) (nL : Nat) (n0 : Int) (ad0 ad : Int → Nat) (ca : Int → ClassId) (σ : zMem) (H : Heap) (locs : List Loc) (lsC : Array Slot) (ls st : List zV) : Prop :=
  zPu w ∧ v0.category = 1 ∧ (ini = true → meth.name = "<init>") ∧ zDy w D B0 v0 ph s ad ca σ H locs ∧ n0 ≤ σ 0 0 ∧ (1 ≤ n0 ∧ ∀ a : Int, a < n0 → ad a = ad0 a) ∧ lv_has lsC nL (zlv ad v0 0 ls) ∧ zvoks w (σ 0 0) ls ∧ zvoks w (σ 0 0) st ∧ ls.length = nL
def zRm (R : Room) (w : zW) (n0 : Int) (d : Nat) (r : Int × zMem) : Prop := (r.2 0 0 - n0).toNat ≤ R.cells ∧ zsl w (r.2 0 0) - zsl w n0 ≤ R.slots ∧ d + 1 ≤ R.frames ∧ 64 * (d + 1) ≤ R.locals
/-- what the machine goes on with, the JVM does -/
def zKt0 (p : Program) (l : Launch) (e : Env) (R : Room) (s : State) (m : MethodId) (args : Array Value) (below : List Frame) (meth : Method) (c : Code) (Q : State → Prop) (w : zW) (D : va_G) (B0 : Nat) (v0 : Value) (ph : Bool) (cd : List zQ) (nL : Nat) (n0 : Int) (ad0 : Int → Nat) (r : Int × zMem) (kn : Nat → List zV → List zV → zMem → Option (Int × zMem)) : Prop :=
  ∀ (j' : Nat) (ls' st' : List zV) (σ' : zMem) (ad' : Int → Nat) (ca' : Int → ClassId) (H' : Heap) (locs' : List Loc) (lsC' : Array Slot), kn j' ls' st' σ' = some r → zDy w D B0 v0 ph s ad' ca' σ' H' locs' → (∀ a : Int, a < n0 → ad' a = ad0 a) → n0 ≤ σ' 0 0 → lv_has lsC' nL (zlv ad' v0 0 ls') → zvoks w (σ' 0 0) ls' → zvoks w (σ' 0 0) st' → ls'.length = nL →
    W p l e R s m args below meth c H' locs' (σ' 0 0 - n0).toNat (zsl w (σ' 0 0) - zsl w n0) Q (F0 m (zoff cd j') lsC' (st'.map (zcv ad' v0)))
section
variable {p : Program} {l : Launch} {e : Env} {R : Room} {s : State} {m : MethodId} {args : Array Value} {below : List Frame} {meth : Method} {c : Code} {H : Heap} {locs : List Loc} {Q : State → Prop}
variable {w : zW} {D : va_G} {B0 : Nat} {v0 : Value} {ph ini : Bool} {ad0 ad : Int → Nat} {ca : Int → ClassId} {σ : zMem} {cd : List zQ} {nL j d y own off : Nat} {n0 : Int} {b : ByteArray} {lsC : Array Slot} {ls st : List zV} {r : Int × zMem} {ret : Option FieldType}
variable {kn : Nat → List zV → List zV → zMem → Option (Int × zMem)} {kc : zKC zMem (Option (Int × zMem))} {an : List Nat} {az : List Int}

theorem zNX_of (K : zKt0 p l e R s m args below meth c Q w D B0 v0 ph cd nL n0 ad0 r kn) (G : zGd meth ini w D B0 v0 ph s nL n0 ad0 ad ca σ H locs lsC ls st) : zNX p l e R s m args below meth c H locs (σ 0 0 - n0).toNat (zsl w (σ 0 0) - zsl w n0) Q w ad v0 (σ 0 0) cd nL (fun j ls st => kn j ls st σ) r :=
  fun _ _ _ _ h a1 a2 a3 a4 => K _ _ _ _ _ _ _ _ _ h G.2.2.2.1 G.2.2.2.2.2.1.2 G.2.2.2.2.1 a1 a2 a3 a4
theorem zST_of (C : zCx p s m args c b nL own D B0) (G : zGd meth ini w D B0 v0 ph s nL n0 ad0 ad ca σ H locs lsC ls st) : zST p c b w ad v0 (σ 0 0) nL lsC ls st := ⟨C.1, C.2.1, G.2.2.2.2.2.2.1, G.2.2.2.2.2.2.2.1, G.2.2.2.2.2.2.2.2.1, G.2.2.2.2.2.2.2.2.2⟩
/-- behind an instruction that writes into an object that is there -/
theorem zK_put {σ' : zMem} {H' : Heap} {locs' : List Loc} {st' : List zV} (K : zKt0 p l e R s m args below meth c Q w D B0 v0 ph cd nL n0 ad0 r kn) (G : zGd meth ini w D B0 v0 ph s nL n0 ad0 ad ca σ H locs lsC ls st) (h0 : σ' 0 0 = σ 0 0) (hw : zWo w D B0 ad ca σ' s H') (hs : va_S (zA0 B0) s.heap H' locs') (hf : ph = true → zFl w σ') (hso : zvoks w (σ 0 0) st') (h : kn (j + 1) ls st' σ' = some r) :
    W p l e R s m args below meth c H' locs' (σ 0 0 - n0).toNat (zsl w (σ 0 0) - zsl w n0) Q (F0 m (zoff cd (j + 1)) lsC (st'.map (zcv ad v0))) := by
  obtain ⟨g1, g2, g3, g4, g5, g6, g7, g8, g9, g10⟩ := G
  have k := K _ _ _ _ ad ca H' locs' lsC h ⟨hw, g4.2.1, hs, hf⟩ g6.2 (by rw [h0]; exact g5) g7 (by rw [h0]; exact g8) (by rw [h0]; exact hso) g10
  rw [h0] at k
  exact k
theorem zs_getfield {idx : Nat} (C : zCx p s m args c b nL own D B0) (G : zGd meth ini w D B0 v0 ph s nL n0 ad0 ad ca σ H locs lsC ls st) (K : zKt0 p l e R s m args below meth c Q w D B0 v0 ph cd nL n0 ad0 r kn) (hax : zaux cd y own ret ini (off, .getfield idx, an, az) = true) (hxt : zxtra (off, .getfield idx, an, az) = true) (hd : decode b off = .ok (.getfield idx, 3)) (ho : zoff cd (j + 1) = off + 3) (h : zstp zarR ph (zK w) (zR w) zrd zup zcp kn kc (fun x m => some (x, m)) none j ls st σ (.getfield idx) an az = some r) : W p l e R s m args below meth c H locs (σ 0 0 - n0).toNat (zsl w (σ 0 0) - zsl w n0) Q (F0 m off lsC (st.map (zcv ad v0))) := by
  have hn := zNX_of K G
  obtain ⟨hx, hb, hml, hown, hts, hK, hB⟩ := C
  obtain ⟨hP, hv, hini, ⟨hW, hO, hS, hF⟩, g5, g6, hl, hlo, hso, hlen⟩ := G
  have n1 : 1 ≤ σ 0 0 := hW.2.2.2.2.1
  have fin : ∀ {v : zV} {st' : List zV} {off' : Nat}, off' = off + 3 → kn (j + 1) ls (v :: st') σ = some r → zvok w (σ 0 0) v → zvoks w (σ 0 0) st' → W p l e R s m args below meth c H locs (σ 0 0 - n0).toNat (zsl w (σ 0 0) - zsl w n0) Q (F0 m off' lsC (zcv ad v0 v :: st'.map (zcv ad v0))) := by
    intro v st' off' e0 h1 h2 h3
    have k := hn _ _ _ _ h1 hl hlo (zvoks_cons.mpr ⟨h2, h3⟩) hlen
    rw [ho] at k
    rw [e0]
    exact k
  unfold zaux at hax
  dsimp only at hax
  split at hax
  · obtain ⟨e1, e2⟩ := of_decide_eq_true hax
    subst e1; subst e2
    obtain ⟨c', n', a, st', rfl, h2⟩ := zr1_some h
    obtain ⟨e3, h3⟩ := zite_some h2
    subst e3
    obtain ⟨k1, k2, k3⟩ := (zvoks_cons.mp hso).1
    have hk : (zK w a).1 = 40 := by rw [k1]; rfl
    have ha : a < 0 := zold_neg (w := w) (Or.inr (Or.inr hk))
    obtain ⟨f1, f2, f3, f4⟩ := zneg40 ha hk
    exact zh_val hx hb hts hO hS hown ha hk hd (fin (v := zA 24 0 (zR w a 0)) rfl h3 ⟨f1, by omega, by omega⟩ (zvoks_cons.mp hso).2)
  · obtain ⟨e1, e2⟩ := of_decide_eq_true hax
    subst e1; subst e2
    obtain ⟨c', n', a, st', rfl, h2⟩ := zr1_some h
    obtain ⟨e3, h3⟩ := zite_some h2
    subst e3
    obtain ⟨k1, k2, k3⟩ := (zvoks_cons.mp hso).1
    have hk : (zK w a).1 = 40 := by rw [k1]; rfl
    have ha : a < 0 := zold_neg (w := w) (Or.inr (Or.inr hk))
    obtain ⟨f1, f2, f3, f4⟩ := zneg40 ha hk
    have h4 : kn (j + 1) ls (zI (zR w a 1) :: st') σ = some r := h3
    rw [f3] at h4
    exact zh_cod hx hb hts hO hS hown ha hk hd (fin (v := zI 0) rfl h4 zc32_0 (zvoks_cons.mp hso).2)
  · rename_i e0 cc ty c2 n2 k q1 q2
    split at hax
    · rename_i own' idx' c' k' hfe
      simp only [Bool.and_eq_true, Bool.or_eq_true, decide_eq_true_eq] at hax
      obtain ⟨⟨⟨⟨z1, z2⟩, z3⟩, z4⟩, z5⟩ := hax
      have z1 := Nat.eq_of_beq_eq_true z1
      have z2 := Nat.eq_of_beq_eq_true z2
      have z3 := Nat.eq_of_beq_eq_true z3
      subst z1; subst z2; subst z3; subst z4
      have hfo : zfOK (own', idx', c', k') := zfes_ok _ (List.mem_of_getElem? (by rw [znth_get] at hfe; exact hfe))
      obtain ⟨c3, n', a, st', rfl, h2⟩ := zr1_some h
      obtain ⟨e3, h3⟩ := zite_some h2
      subst e3
      obtain ⟨k1, k2, k3⟩ := (zvoks_cons.mp hso).1
      have hs2 := (zvoks_cons.mp hso).2
      have hk : (zK w a).1 = (c' : Int) := by rw [k1]
      have hty : ∃ ty2 fin2, (c', k', ty2, c2, n2, fin2) ∈ zfds ∧ (ty = ty2 ∨ (ty = 1 ∧ ty2 = 6)) := by
        rcases z5 with (z5 | z5) | ⟨z5, z6⟩
        · exact ⟨_, _, z5, Or.inl rfl⟩
        · exact ⟨_, _, z5, Or.inl rfl⟩
        · exact ⟨_, _, z6, Or.inr ⟨eq_of_beq z5, rfl⟩⟩
      obtain ⟨ty2, fin2, m1, m2⟩ := hty
      obtain ⟨t1, t2, t3, t4⟩ := zty_fd (w := w) (a := a) m1 hk
      have ha : 0 < a := zpos (w := w) k2 (by omega) (by omega) (by omega) (by omega)
      have hkl : (k' : Int) < (zK w a).2 := by
        obtain ⟨rr, f1, f2, f3, -⟩ := hfo
        have f1 : znth zcl (c' - 1) = some rr := f1
        rw [zKc (r := rr) ha (by omega) (by omega) (by rw [hk, show ((c' : Int) - 1).toNat = c' - 1 by omega]; exact f1)]
        have f3 : k' < rr.2.2 := f3
        omega
      have hsk := hW.2.2.1 a k' ha k3 (by omega) hkl
      refine zh_getf (en := (own', idx', c', k')) hx hb hts hK hW hfo hown ha k3 hk t1 hd ?_
      have ht := zfds_ty _ m1
      have ht : ty2 = 1 ∨ ty2 = 2 ∨ ty2 = 3 ∨ ty2 = 6 := ht
      show W p l e R s m args below meth c H locs (σ 0 0 - n0).toNat (zsl w (σ 0 0) - zsl w n0) Q (F0 m (off + 3) lsC (zsv w ad σ a k' :: st'.map (zcv ad v0)))
      rcases ht with rfl | rfl | rfl | rfl
      · have : ty = 1 := by omega
        subst this
        have hv2 : zsv w ad σ a k' = .int (Int32.ofInt (σ a k')) := by unfold zsv; rw [t3]; rfl
        have hc2 : zc32 (σ a k') := by unfold zsk at hsk; rw [t3] at hsk; exact hsk
        rw [hv2]
        exact fin (v := zI (σ a k')) rfl h3 hc2 hs2
      · have : ty = 2 := by omega
        subst this
        have hv2 : zsv w ad σ a k' = .long (Int64.ofInt (σ a k')) := by unfold zsv; rw [t3]; rfl
        have hc2 : zc64 (σ a k') := by unfold zsk at hsk; rw [t3] at hsk; exact hsk
        rw [hv2]
        exact fin (v := zJ (σ a k')) rfl h3 hc2 hs2
      · have : ty = 3 := by omega
        subst this
        have hset : σ a k' = 1 ∧ kn (j + 1) ls (zA c2 n2 (zR w a k') :: st') σ = some r := by
          cases ph with
          | true => exact ⟨hF rfl a k' ha k3 (by omega) hkl t3, h3⟩
          | false => exact zite_some h3
        have hv2 : zsv w ad σ a k' = .ref (ad (zR w a k')) := by unfold zsv; rw [t3]; exact if_pos hset.1
        have hc2 : zvr w (σ 0 0) (zR w a k') (c2, n2) := by unfold zsk at hsk; rw [t3, t4] at hsk; exact hsk hset.1
        rw [hv2]
        exact fin (v := zA c2 n2 (zR w a k')) rfl hset.2 hc2 hs2
      · rcases m2 with m2 | ⟨m2, -⟩
        · subst m2
          exact absurd (show ((6 : Nat) != 6) = true from hxt) (by decide)
        · subst m2
          have hv2 : zsv w ad σ a k' = .int (Int32.ofInt (σ a k')) := by unfold zsv; rw [t3]; rfl
          have hc2 : 0 ≤ σ a k' ∧ σ a k' ≤ 1 := by unfold zsk at hsk; rw [t3] at hsk; exact hsk
          rw [hv2]
          exact fin (v := zI (σ a k')) rfl h3 ⟨by omega, by omega⟩ hs2
    · cases hax
  · cases hax
theorem zcn_own : ((List.range 14).all fun c => c == 0 || zcnOf c == zclN c) = true := by decide +kernel
theorem zs_putfield {idx : Nat} (C : zCx p s m args c b nL own D B0) (G : zGd meth ini w D B0 v0 ph s nL n0 ad0 ad ca σ H locs lsC ls st) (K : zKt0 p l e R s m args below meth c Q w D B0 v0 ph cd nL n0 ad0 r kn) (hax : zaux cd y own ret ini (off, .putfield idx, an, az) = true) (hd : decode b off = .ok (.putfield idx, 3)) (ho : zoff cd (j + 1) = off + 3) (h : zstp zarR ph (zK w) (zR w) zrd zup zcp kn kc (fun x m => some (x, m)) none j ls st σ (.putfield idx) an az = some r) : W p l e R s m args below meth c H locs (σ 0 0 - n0).toNat (zsl w (σ 0 0) - zsl w n0) Q (F0 m off lsC (st.map (zcv ad v0))) := by
  have C0 := C
  have G0 := G
  obtain ⟨hx, hb, hml, hown, hts, hK, hB⟩ := C
  obtain ⟨hP, hv, hini, ⟨hW, hO, hS, hF⟩, g5, g6, hl, hlo, hso, hlen⟩ := G
  unfold zaux at hax
  dsimp only at hax
  split at hax
  · rename_i e0 cc ty c2 n2 k
    split at hax
    · rename_i own' idx' c' k' hfe
      simp only [Bool.and_eq_true, Bool.or_eq_true, decide_eq_true_eq] at hax
      obtain ⟨⟨⟨⟨z1, z2⟩, z3⟩, z4⟩, z5⟩ := hax
      have z1 := Nat.eq_of_beq_eq_true z1
      have z2 := Nat.eq_of_beq_eq_true z2
      have z3 := Nat.eq_of_beq_eq_true z3
      subst z1; subst z2; subst z3; subst z4
      have hfo : zfOK (own', idx', c', k') := zfes_ok _ (List.mem_of_getElem? (by rw [znth_get] at hfe; exact hfe))
      have hty : ∃ fin2, (c', k', ty, c2, n2, fin2) ∈ zfds ∧ (fin2 = false ∨ (meth.name = "<init>" ∧ zcnOf own' = zclN c')) := by
        rcases z5 with z5 | ⟨⟨z5, z6⟩, z7⟩
        · exact ⟨_, z5, Or.inl rfl⟩
        · have z7 := Nat.eq_of_beq_eq_true z7
          subst z7
          have h13 := (zfds_ok _ z5)
          obtain ⟨rr, f1, f2, -⟩ := h13
          have f1 : znth zcl (own' - 1) = some rr := f1
          have f2 : 0 < own' := f2
          have f3 := znth_len f1
          have f3 : own' - 1 < 13 := f3
          have h14 := List.all_eq_true.mp zcn_own own' (List.mem_range.mpr (by omega))
          have h15 : (own' == 0) = false := by simp; omega
          rw [h15] at h14
          exact ⟨_, z5, Or.inr ⟨hini z6, eq_of_beq h14⟩⟩
      obtain ⟨fin2, m1, m2⟩ := hty
      have hkk : ∀ {a : Int}, a ≠ 0 → (zK w a).1 = (c' : Int) → 0 < a ∧ c' ≤ 13 ∧ zty w a k' = ty ∧ ztg w a k' = (c2, n2) := by
        intro a k2 hk
        obtain ⟨t1, t2, t3, t4⟩ := zty_fd (w := w) (a := a) m1 hk
        exact ⟨zpos (w := w) k2 (by omega) (by omega) (by omega) (by omega), t1, t3, t4⟩
      have ht : ty = 1 ∨ ty = 2 ∨ ty = 3 ∨ ty = 6 := zfds_ty _ m1
      rcases ht with rfl | rfl | rfl | rfl
      · rcases st with _ | ⟨(x | x), _ | ⟨(u | (u | (⟨c3, n3, a⟩ | u))), st'⟩⟩ <;> first | (cases h; done) | skip
        obtain ⟨e3, h3⟩ := zite_some (show (if c3 = (c' : Int) then kn (j + 1) ls st' (zup σ a k' x) else none) = some r from h)
        subst e3
        obtain ⟨k1, k2, k3⟩ := (zvoks_cons.mp (zvoks_cons.mp hso).2).1
        have hxc : zc32 x := (zvoks_cons.mp hso).1
        have hk : (zK w a).1 = (c' : Int) := by rw [k1]
        obtain ⟨ha, t1, t3, t4⟩ := hkk k2 hk
        refine zh_putf (en := (own', idx', c', k')) (x := x) hx hb hts hK hW hS hfo hown ha k3 (hW.1 a ha k3).2.1 hk t1 hd (zfds_ok _ m1) m2 (fun t q => ?_) ?_ ?_ fun H1 locs1 w1 s1 => ?_
        · have q : t = .int := q
          subst q; exact ⟨rfl, rfl⟩
        · unfold zsv; show (match zty w a k' with | _ => _) = _; rw [t3, zup_s k2]; rfl
        · unfold zsk; show (match zty w a k' with | _ => _); rw [t3, zup_s k2]; exact hxc
        · have k := zK_put K G0 (zup_n (fun q => k2 q.1.symm)) w1 s1 (fun q => zFl_set (hF q) ha (by rw [t3]; decide)) (zvoks_cons.mp (zvoks_cons.mp hso).2).2 h3
          rw [ho] at k
          exact k
      · rcases st with _ | ⟨(x | (x | x)), _ | ⟨(u | (u | (⟨c3, n3, a⟩ | u))), st'⟩⟩ <;> first | (cases h; done) | skip
        obtain ⟨e3, h3⟩ := zite_some (show (if c3 = (c' : Int) then kn (j + 1) ls st' (zup σ a k' x) else none) = some r from h)
        subst e3
        obtain ⟨k1, k2, k3⟩ := (zvoks_cons.mp (zvoks_cons.mp hso).2).1
        have hxc : zc64 x := (zvoks_cons.mp hso).1
        have hk : (zK w a).1 = (c' : Int) := by rw [k1]
        obtain ⟨ha, t1, t3, t4⟩ := hkk k2 hk
        refine zh_putf (en := (own', idx', c', k')) (x := x) hx hb hts hK hW hS hfo hown ha k3 (hW.1 a ha k3).2.1 hk t1 hd (zfds_ok _ m1) m2 (fun t q => ?_) ?_ ?_ fun H1 locs1 w1 s1 => ?_
        · have q : t = .long := q
          subst q; exact ⟨rfl, rfl⟩
        · unfold zsv; show (match zty w a k' with | _ => _) = _; rw [t3, zup_s k2]; rfl
        · unfold zsk; show (match zty w a k' with | _ => _); rw [t3, zup_s k2]; exact hxc
        · have k := zK_put K G0 (zup_n (fun q => k2 q.1.symm)) w1 s1 (fun q => zFl_set (hF q) ha (by rw [t3]; decide)) (zvoks_cons.mp (zvoks_cons.mp hso).2).2 h3
          rw [ho] at k
          exact k
      · cases ph with
        | true => cases h
        | false =>
          rcases st with _ | ⟨(x | (x | (⟨c4, n4, bb⟩ | x))), _ | ⟨(u | (u | (⟨c3, n3, a⟩ | u))), st'⟩⟩ <;> first | (cases h; done) | skip
          obtain ⟨⟨e3, e4, e5, e6⟩, h3⟩ := zite_some (show (if c3 = (c' : Int) ∧ c4 = c2 ∧ n4 = n2 ∧ bb = zR w a k' then kn (j + 1) ls st' (zup σ a k' 1) else none) = some r from h)
          subst e3; subst e4; subst e5; subst e6
          obtain ⟨k1, k2, k3⟩ := (zvoks_cons.mp (zvoks_cons.mp hso).2).1
          have hxc : zvr w (σ 0 0) (zR w a k') (c4, n4) := (zvoks_cons.mp hso).1
          have hk : (zK w a).1 = (c' : Int) := by rw [k1]
          obtain ⟨ha, t1, t3, t4⟩ := hkk k2 hk
          refine zh_putf (en := (own', idx', c', k')) (x := 1) hx hb hts hK hW hS hfo hown ha k3 (hW.1 a ha k3).2.1 hk t1 hd (zfds_ok _ m1) m2 (fun t q => ?_) ?_ ?_ fun H1 locs1 w1 s1 => ?_
          · have q : t.isReference = true := q
            cases t <;> first | exact ⟨rfl, rfl⟩ | cases q
          · unfold zsv; show (match zty w a k' with | _ => _) = _; rw [t3, zup_s k2]; exact if_pos rfl
          · unfold zsk; show (match zty w a k' with | _ => _); rw [t3, zup_s k2]
            rw [zup_n (fun q => k2 q.1.symm)]
            show (1 : Int) = 1 → zvr w (σ 0 0) (zR w a k') (ztg w a k')
            rw [t4]; exact fun _ => hxc
          · have k := zK_put K G0 (zup_n (fun q => k2 q.1.symm)) w1 s1 (fun q => by cases q) (zvoks_cons.mp (zvoks_cons.mp hso).2).2 h3
            rw [ho] at k
            exact k
      · rcases st with _ | ⟨(x | x), _ | ⟨(u | (u | (⟨c3, n3, a⟩ | u))), st'⟩⟩ <;> first | (cases h; done) | skip
        obtain ⟨⟨e3, x0, x1⟩, h3⟩ := zite_some (show (if c3 = (c' : Int) ∧ 0 ≤ x ∧ x ≤ 1 then kn (j + 1) ls st' (zup σ a k' x) else none) = some r from h)
        subst e3
        obtain ⟨k1, k2, k3⟩ := (zvoks_cons.mp (zvoks_cons.mp hso).2).1
        have hk : (zK w a).1 = (c' : Int) := by rw [k1]
        obtain ⟨ha, t1, t3, t4⟩ := hkk k2 hk
        refine zh_putf (en := (own', idx', c', k')) (x := x) hx hb hts hK hW hS hfo hown ha k3 (hW.1 a ha k3).2.1 hk t1 hd (zfds_ok _ m1) m2 (fun t q => ?_) ?_ ?_ fun H1 locs1 w1 s1 => ?_
        · have q : t = .boolean := q
          subst q
          have : x = 0 ∨ x = 1 := by omega
          rcases this with rfl | rfl <;> exact ⟨rfl, rfl⟩
        · unfold zsv; show (match zty w a k' with | _ => _) = _; rw [t3, zup_s k2]; rfl
        · unfold zsk; show (match zty w a k' with | _ => _); rw [t3, zup_s k2]; exact ⟨x0, x1⟩
        · have k := zK_put K G0 (zup_n (fun q => k2 q.1.symm)) w1 s1 (fun q => zFl_set (hF q) ha (by rw [t3]; decide)) (zvoks_cons.mp (zvoks_cons.mp hso).2).2 h3
          rw [ho] at k
          exact k
    · cases hax
  · cases hax
end
