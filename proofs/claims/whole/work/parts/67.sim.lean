/-! Runs: what the machine answers, the JVM does -/
theorem zofW {l : Launch} {y : MethodName} {ws ws' : List Jvm.Cond} {rm : Room} {Pc : Array Value → State → Prop} {Qc : Array Value → State → Outcome → State → Prop} {mc ms : Nat} {free : Addr → Prop} {cc : ByteArray} {maxL : Nat} {ret : Option FieldType}
    (hy : plainFor y = true) (hw : ws = Jvm.Cond.code y cc maxL ret :: ws')
    (body : ∀ p e s m args below meth c s₁, BodyLoose p l y (headSpec ws rm) cc maxL ret e s m args below meth c s₁ → c.maxLocals = maxL → Pc args s →
      W p l e (headSpec ws rm).room s m args below meth c s.heap [] 0 0 (MQ below Qc args s mc ms free) (entryFrame m args maxL)) : Met l y ws rm Pc Qc mc ms free := by
  refine MetFree.of_bodySF (code := cc) (maxLocals := maxL) (ret := ret) hy ?_ ?_
  · intro args s m h hn
    obtain ⟨meth, c, h1, h2, h3, h4, h5, h6, -, -⟩ := Cond.code_spec hn (atoms_spec (ws := ws) h _ (by rw [hw]; exact List.mem_cons_self))
    exact ⟨meth, c, h1, h2, h3, h4, h5, h6⟩
  · intro p e s m args below meth c s₁ B hml hP _
    have hh0 : s₁.heap = s.heap := by rw [B.state]; rfl
    obtain ⟨t, a1, o, b1, b2, b3⟩ := body p e s m args below meth c s₁ B hml hP s₁ hh0 (Stand.of_body B)
    exact ⟨t, o, a1, b1, b2, ⟨b3.1, b3.2⟩⟩
theorem zchks_at {c : List zQ} {b : ByteArray} {y own : Nat} {ret : Option FieldType} {ini : Bool} : ∀ {l : List zQ} {j k : Nat} {q : zQ}, zchks c b y own ret ini j l = true → znth l k = some q → zchk c b y own ret ini (j + k) q = true
  | [], _, k, _, _, h => by cases k <;> cases h
  | a :: l, j, k, q, h1, h => by
    simp only [zchks, Bool.and_eq_true] at h1
    cases k with
    | zero => cases h; exact h1.1
    | succ k =>
      have := zchks_at (l := l) (j := j + 1) (k := k) h1.2 h
      rw [show j + (k + 1) = j + 1 + k by omega]
      exact this
theorem zxt_at {y k : Nat} {cd : List zQ} {q : zQ} (h : znth zcode y = some cd) (h2 : znth cd k = some q) : zxtra q = true := by
  rw [znth_get] at h h2
  exact List.all_eq_true.mp (List.all_eq_true.mp zxtra_all _ (List.mem_of_getElem? h)) _ (List.mem_of_getElem? h2)
/-- the ends of a method -/
def zRT (p : Program) (l : Launch) (e : Env) (R : Room) (s : State) (m : MethodId) (args : Array Value) (below : List Frame) (meth : Method) (c : Code) (Q : State → Prop) (w : zW) (D : va_G) (B0 : Nat) (v0 : Value) (ph : Bool) (y : Nat) (ret : Option FieldType) (b : ByteArray) (n0 : Int) (ad0 : Int → Nat) (r : Int × zMem) : Prop :=
  ∀ (ad : Int → Nat) (ca : Int → ClassId) (H : Heap) (locs : List Loc) (lsC : Array Slot) (off : Nat), zDy w D B0 v0 ph s ad ca r.2 H locs → (∀ a : Int, a < n0 → ad a = ad0 a) → n0 ≤ r.2 0 0 → decode b off = .ok (zrins (zkindOf ret), 1) → zvoks w (r.2 0 0) (zpush (zkindOf ret) (zrtP y).1 (zrtP y).2 r.1 []) → zrng (zkindOf ret) r.1 →
    W p l e R s m args below meth c H locs (r.2 0 0 - n0).toNat (zsl w (r.2 0 0) - zsl w n0) Q (F0 m off lsC ((zpush (zkindOf ret) (zrtP y).1 (zrtP y).2 r.1 []).map (zcv ad v0)))
/-- at n steps, everywhere -/
def zRun (l : Launch) (w : zW) (D : va_G) (B0 : Nat) (v0 : Value) (ph : Bool) (n : Nat) : Prop :=
  ∀ (d y pc : Nat) (ls st : List zV) (σ : zMem) (r : Int × zMem), zex zarR ph (zK w) (zR w) zP zml zrd zup zcp n d y pc ls st σ = some r →
    ∀ (p : Program) (e : Env) (R : Room) (s : State) (m : MethodId) (args : Array Value) (below : List Frame) (meth : Method) (c : Code) (Q : State → Prop) (cd : List zQ) (b : ByteArray) (own nL : Nat) (ret : Option FieldType) (ini : Bool) (n0 : Int) (ad0 ad : Int → Nat) (ca : Int → ClassId) (H : Heap) (locs : List Loc) (lsC : Array Slot),
      znth zcode y = some cd → zchks cd b y own ret ini 0 cd = true → zCx p s m args c b nL own D B0 → zGd meth ini w D B0 v0 ph s nL n0 ad0 ad ca σ H locs lsC ls st → zRm R w n0 d r → zRT p l e R s m args below meth c Q w D B0 v0 ph y ret b n0 ad0 r →
      W p l e R s m args below meth c H locs (σ 0 0 - n0).toNat (zsl w (σ 0 0) - zsl w n0) Q (F0 m (zoff cd pc) lsC (st.map (zcv ad v0)))
theorem zspread_lg {ad : Int → Nat} {v0 : Value} (hv : v0.category = 1) : ∀ as : List zV, (lg_sl (as.map (zcv ad v0))).length = (zspread as).length
  | [] => rfl
  | a :: l => by
    have ih := zspread_lg (ad := ad) hv l
    rw [List.map_cons]
    have e : ∀ (v : Value) (vs : List Value), lg_sl (v :: vs) = (if v.category = 2 then [.val v, .second] else [.val v]) ++ lg_sl vs := fun v vs => by simp [lg_sl]
    rw [e, List.length_append, ih]
    rcases a with a | (a | (⟨x, y, z⟩ | a))
    · show 1 + _ = (zspread l).length + 1; omega
    · show 2 + _ = (zspread l).length + 1 + 1; omega
    · show 1 + _ = (zspread l).length + 1; omega
    · show (if v0.category = 2 then [Slot.val v0, .second] else [.val v0]).length + _ = (zspread l).length + 1
      rw [hv, if_neg (by decide)]
      show 1 + _ = _
      omega
theorem zlv_rep {ad : Int → Nat} {v0 : Value} : ∀ (k i : Nat), zlv ad v0 i (List.replicate k zU) = []
  | 0, _ => rfl
  | k + 1, i => by rw [List.replicate_succ]; exact zlv_rep k (i + 1)
theorem zlv_args {ad : Int → Nat} {v0 : Value} (hv : v0.category = 1) : ∀ (as : List zV) (k i : Nat), ∀ q ∈ zlv ad v0 i (zspread as ++ List.replicate k zU), q ∈ lv_args i (as.map (zcv ad v0))
  | [], k, i, q, h => by
    have h : q ∈ zlv ad v0 i (List.replicate k zU) := h
    rw [zlv_rep] at h
    cases h
  | a :: l, k, i, q, h => by
    have e : lv_args i ((a :: l).map (zcv ad v0)) = (i, zcv ad v0 a) :: lv_args (if (zcv ad v0 a).category = 2 then i + 2 else i + 1) (l.map (zcv ad v0)) := rfl
    rw [e]
    rcases a with a | (a | (⟨x, y, z⟩ | a))
    · rcases List.mem_cons.mp (show q ∈ (i, zcv ad v0 (zI a)) :: zlv ad v0 (i + 1) (zspread l ++ List.replicate k zU) from h) with h | h
      · rw [h]; exact List.mem_cons_self
      · exact List.mem_cons_of_mem _ (zlv_args hv l k (i + 1) q h)
    · rcases List.mem_cons.mp (show q ∈ (i, zcv ad v0 (zJ a)) :: zlv ad v0 (i + 1 + 1) (zspread l ++ List.replicate k zU) from h) with h | h
      · rw [h]; exact List.mem_cons_self
      · exact List.mem_cons_of_mem _ (zlv_args hv l k (i + 2) q h)
    · rcases List.mem_cons.mp (show q ∈ (i, zcv ad v0 (zA x y z)) :: zlv ad v0 (i + 1) (zspread l ++ List.replicate k zU) from h) with h | h
      · rw [h]; exact List.mem_cons_self
      · exact List.mem_cons_of_mem _ (zlv_args hv l k (i + 1) q h)
    · refine List.mem_cons_of_mem _ ?_
      have e2 : (zcv ad v0 (.inr (.inr (.inr a)))).category = 1 := hv
      rw [e2, if_neg (by decide)]
      exact zlv_args hv l k (i + 1) q h
theorem zent_ok {w : zW} {cnt : Int} (n : Nat) {as : List zV} (h : zvoks w cnt as) : zvoks w cnt (zent n as) := by
  intro v hv
  rcases List.mem_append.mp hv with hv | hv
  · have : ∀ l : List zV, zvoks w cnt l → ∀ v ∈ zspread l, zvok w cnt v := by
      intro l
      induction l with
      | nil => intro _ v hv; cases hv
      | cons a l ih =>
        intro hl v hv
        have h1 := zvoks_cons.mp hl
        rcases a with a | (a | (⟨x, y, z⟩ | a))
        · rcases List.mem_cons.mp (show v ∈ zI a :: zspread l from hv) with e | e
          · rw [e]; exact h1.1
          · exact ih h1.2 v e
        · rcases List.mem_cons.mp (show v ∈ zJ a :: zU :: zspread l from hv) with e | e
          · rw [e]; exact h1.1
          · rcases List.mem_cons.mp e with e | e
            · rw [e]; trivial
            · exact ih h1.2 v e
        · rcases List.mem_cons.mp (show v ∈ zA x y z :: zspread l from hv) with e | e
          · rw [e]; exact h1.1
          · exact ih h1.2 v e
        · rcases List.mem_cons.mp (show v ∈ .inr (.inr (.inr a)) :: zspread l from hv) with e | e
          · rw [e]; trivial
          · exact ih h1.2 v e
    exact this as h v hv
  · rw [List.eq_of_mem_replicate hv]; trivial
theorem zent_len {n : Nat} {as : List zV} (h : (zspread as).length ≤ n) : (zent n as).length = n := by
  unfold zent
  rw [List.length_append, List.length_replicate]
  omega
theorem zoff0_all : (zcode.all fun c => Nat.beq (zoff c 0) 0) = true := by decide +kernel
/-- a contract out of a run -/
theorem zMet_of {l : Launch} {w : zW} {D : va_G} {B0 : Nat} {v0 : Value} {ph : Bool} {n : Nat} (hR : zRun l w D B0 v0 ph n) (hP : zPu w) {d y : Nat} {as : List zV} {σ : zMem} {r : Int × zMem} (h : zex zarR ph (zK w) (zR w) zP zml zrd zup zcp n d y 0 (zent (zml y) as) [] σ = some r) : zMet l w D B0 v0 ph d y as σ r := by
  intro md hmd ad ca hvo hfit hv
  obtain ⟨hOK, hm1, hm2, hret⟩ := zmd_get hmd
  have hy : y < 352 := by have := znth_len hmd; rwa [zmd_len] at this
  obtain ⟨cd, ini, hcd, hck, hini⟩ := zcks y (List.mem_range.mpr hy) md hmd
  refine zofW (cc := md.2.1) (maxL := md.2.2.1) (ret := md.2.2.2.1) (ws' := []) hOK.2.2.2.2.2.1 rfl ?_
  intro p e s m args below meth c s₁ B hml hPc
  obtain ⟨hargs, hW, hK, hO, hts, hB, hF⟩ := hPc
  subst hargs
  have hown : s.vm.findClass (zcnOf md.2.2.2.2.2.2) = some m.cls := by rw [← hOK.2.2.2.1]; exact findClass_of_methodNamed B.named
  have hin : meth.name = md.1.name := (name_of_methodNamed B.named B.method).1
  have hts2 : ∀ w ∈ lw_tk, w.before ((as.map (zcv ad v0)).toArray) s = true := zts_warm (State.WarmedH.refl s) hts
  have hlv0 := lv_entry (as.map (zcv ad v0)) (n := md.2.2.1) (by rw [zspread_lg hv, hm1]; exact hfit)
  rw [lg_entry_eq]
  generalize ((lg_sl (as.map (zcv ad v0)) ++ List.replicate (md.2.2.1 - (lg_sl (as.map (zcv ad v0))).length) Slot.unset).toArray) = lsC at hlv0 ⊢
  have hlv : lv_has lsC md.2.2.1 (zlv ad v0 0 (zent (zml y) as)) := ⟨hlv0.1, hlv0.2.1, fun q hq => hlv0.2.2 q (zlv_args hv as _ 0 q hq)⟩
  have n1 : 1 ≤ σ 0 0 := hW.2.2.2.2.1
  have hC : zCx p s m ((as.map (zcv ad v0)).toArray) c md.2.1 md.2.2.1 md.2.2.2.2.2.2 D B0 := ⟨B.exec, B.bytes, hml, hown, hts2, hK, hB⟩
  have hG : zGd meth ini w D B0 v0 ph s md.2.2.1 (σ 0 0) ad ad ca σ s.heap [] lsC (zent (zml y) as) [] := ⟨hP, hv, fun q => hin.trans (hini q), ⟨hW, hO, va_S.rf, hF⟩, Int.le_refl _, ⟨n1, fun _ _ => rfl⟩, hlv, zent_ok _ hvo, fun _ q => (by cases q), by rw [zent_len hfit]; exact hm1.symm⟩
  have hge := zex_ge h
  have hRm : zRm (headSpec (zws md) (zrm d (r.2 0 0 - σ 0 0).toNat (zsl w (r.2 0 0) - zsl w (σ 0 0)))).room w (σ 0 0) d r := ⟨Nat.le_refl _, Nat.le_refl _, Nat.le_refl _, Nat.le_refl _⟩
  have hoff : zoff cd 0 = 0 := by
    rw [znth_get] at hcd
    exact Nat.eq_of_beq_eq_true (List.all_eq_true.mp zoff0_all _ (List.mem_of_getElem? hcd))
  have key := hR d y 0 _ _ σ r h p e _ s m _ below meth c (MQ below (zQc w D B0 ph (zkindOf md.2.2.2.1) (zrtP y).1 (zrtP y).2 (σ 0 0) ad r) ((as.map (zcv ad v0)).toArray) s (r.2 0 0 - σ 0 0).toNat (zsl w (r.2 0 0) - zsl w (σ 0 0)) (zA0 B0)) cd md.2.1 md.2.2.2.2.2.2 md.2.2.1 md.2.2.2.1 ini (σ 0 0) ad ad ca s.heap [] lsC hcd hck hC hG hRm ?_
  · rw [hoff, show (σ 0 0 - σ 0 0).toNat = 0 by omega, Nat.sub_self] at key
    exact key
  · intro ad' ca' H' locs' lsC' off hD' hag hn hd hpv hrg
    obtain ⟨w1, o1, s1, f1⟩ := hD'
    have hlocs := B.notSynchronized
    have hfree : ∀ q ∈ locs', zA0 B0 q.base := s1.2.2
    have hB1 : ∀ t : State, t.heap = H' → s.WarmedH t.vm → zB w D B0 ph r.2 (ad', ca') t := fun t ht hw => ⟨by rw [ht]; exact w1.moved hw.alike, f1⟩
    have hrt := B.returns
    generalize hk : zkindOf md.2.2.2.1 = k at hd hpv hrg ⊢
    have hzr : ∀ {ty : FieldType}, md.2.2.2.1 = some ty → zkindOf (some ty) = k := fun q => by rw [← q]; exact hk
    cases hty : md.2.2.2.1 with
    | none =>
      rw [hty] at hk
      have hk : k = 0 := hk.symm
      subst hk
      rw [hty] at hrt
      exact W.vret B.exec B.bytes hrt (fun t ht hw => ⟨⟨(ad', ca'), rfl, hag, hB1 t ht hw⟩, s1.F ht⟩) hfree hd hlocs
    | some ty =>
      rw [hty] at hk hrt
      have h0 := hret
      rw [hty] at h0
      have hzi : ∀ {ty2 : FieldType}, ty2 = ty → (zkindOf (some ty2) = 1 ∨ zkindOf (some ty2) = 4 ∨ zkindOf (some ty2) = 5 ∨ zkindOf (some ty2) = 6) → narrow ty2 (.int (Int32.ofInt r.1)) = .int (Int32.ofInt r.1) → W p l e (headSpec (zws md) (zrm d (r.2 0 0 - σ 0 0).toNat (zsl w (r.2 0 0) - zsl w (σ 0 0)))).room s m ((as.map (zcv ad v0)).toArray) below meth c H' locs' (r.2 0 0 - σ 0 0).toNat (zsl w (r.2 0 0) - zsl w (σ 0 0)) (MQ below (zQc w D B0 ph k (zrtP y).1 (zrtP y).2 (σ 0 0) ad r) ((as.map (zcv ad v0)).toArray) s (r.2 0 0 - σ 0 0).toNat (zsl w (r.2 0 0) - zsl w (σ 0 0)) (zA0 B0)) (F0 m off lsC' ((zpush k (zrtP y).1 (zrtP y).2 r.1 []).map (zcv ad' v0))) := by
        intro ty2 e1 e2 e3
        subst e1
        rw [hk] at e2
        rcases e2 with e2 | e2 | e2 | e2 <;> subst e2 <;>
          exact W.zret B.exec B.bytes hrt e3 (fun t ht hw => ⟨⟨Int32.ofInt r.1, (ad', ca'), rfl, ⟨rfl, (zvoks_cons.mp hpv).1, hag⟩, hB1 t ht hw⟩, s1.F ht⟩) hfree hd hlocs
      cases ty with
      | int => exact hzi rfl (Or.inl rfl) rfl
      | boolean =>
        refine hzi rfl (Or.inr (Or.inl rfl)) ?_
        have hk : k = 4 := hk.symm
        subst hk
        have hrg : 0 ≤ r.1 ∧ r.1 ≤ 1 := hrg
        rw [znar ⟨by omega, by omega⟩, show r.1 % 2 = r.1 by omega]
      | char =>
        refine hzi rfl (Or.inr (Or.inr (Or.inl rfl))) ?_
        have hk : k = 5 := hk.symm
        subst hk
        have hrg : 0 ≤ r.1 ∧ r.1 ≤ 65535 := hrg
        show Value.int (((Int32.ofInt r.1).toUInt32 % 65536).toInt32) = _
        rw [zo_i2c, show r.1 % 65536 = r.1 by omega]
      | byte =>
        refine hzi rfl (Or.inr (Or.inr (Or.inr rfl))) ?_
        have hk : k = 6 := hk.symm
        subst hk
        have hrg : -128 ≤ r.1 ∧ r.1 ≤ 127 := hrg
        rw [narrow_byte, zo_i2b ⟨by omega, by omega⟩]
        congr 2
        unfold zw8
        rw [Int.bmod_eq_of_le (by omega) (by omega)]
      | long =>
        have hk : k = 2 := hk.symm
        subst hk
        exact W.lret B.exec B.bytes hrt (fun t ht hw => ⟨⟨Int64.ofInt r.1, (ad', ca'), rfl, ⟨rfl, (zvoks_cons.mp hpv).1, hag⟩, hB1 t ht hw⟩, s1.F ht⟩) hfree hd hlocs
      | object nm =>
        have hk : k = 3 := hk.symm
        subst hk
        exact W.aret B.exec B.bytes hrt (Or.inl ⟨nm, rfl⟩) (Or.inr ⟨_, rfl⟩) (fun t ht hw => ⟨⟨(ad', ca'), _, rfl, ⟨(zvoks_cons.mp hpv).1, hag⟩, rfl, hB1 t ht hw⟩, s1.F ht⟩) hfree hd hlocs
      | array tt =>
        have hk : k = 3 := hk.symm
        subst hk
        exact W.aret B.exec B.bytes hrt (Or.inr ⟨tt, rfl⟩) (Or.inr ⟨_, rfl⟩) (fun t ht hw => ⟨⟨(ad', ca'), _, rfl, ⟨(zvoks_cons.mp hpv).1, hag⟩, rfl, hB1 t ht hw⟩, s1.F ht⟩) hfree hd hlocs
      | _ => cases h0
theorem zruns {l : Launch} {w : zW} {D : va_G} {B0 : Nat} {v0 : Value} {ph : Bool} (hP : zPu w) : ∀ n : Nat, zRun l w D B0 v0 ph n := by
  intro n
  induction n with
  | zero => intro d y pc ls st σ r h; cases h
  | succ n ih =>
    intro d y pc ls st σ r h p e R s m args below meth c Q cd b own nL ret ini n0 ad0 ad ca H locs lsC hcd hck hC hG hRm hRT
    rw [zex] at h
    have hzP : zP y pc = match znth cd pc with | none => none | some q => some q.2 := by rw [zP, hcd]; rfl
    rw [hzP] at h
    cases hq : znth cd pc with
    | none => rw [hq] at h; cases h
    | some q =>
      rw [hq] at h
      obtain ⟨off, i, an, az⟩ := q
      dsimp only at h
      have hoff : zoff cd pc = off := by unfold zoff; rw [hq]
      rw [hoff]
      have hchk := zchks_at hck hq
      rw [Nat.zero_add] at hchk
      refine zstep hC hG ?_ hRm (fun j ls st σ' h' => zex_ge h') ?_ ?_ hchk (zxt_at hcd hq) h
      · intro j' ls' st' σ' ad' ca' H' locs' lsC' h' hD' hag hn hl' hlo' hso' hlen'
        exact ih d y j' ls' st' σ' r h' p e R s m args below meth c Q cd b own nL ret ini n0 ad0 ad' ca' H' locs' lsC' hcd hck hC ⟨hG.1, hG.2.1, hG.2.2.1, hD', hn, ⟨hG.2.2.2.2.2.1.1, hag⟩, hl', hlo', hso', hlen'⟩ hRm hRT
      · intro y' as σ' k c2 n2 pc' ls' st' h'
        cases d with
        | zero => cases h'
        | succ d =>
          dsimp only at h'
          cases hf : zfit (zml y') as (zex zarR ph (zK w) (zR w) zP zml zrd zup zcp n d y' 0 (zent (zml y') as) [] σ') with
          | none => rw [hf] at h'; cases h'
          | some r' =>
            rw [hf] at h'
            obtain ⟨hf1, hf2⟩ := zfit_some hf
            exact ⟨d, r', rfl, zMet_of ih hP hf2, hf1, zex_ge hf2, h'⟩
      · intro hr2 hd hpv hrg
        subst hr2
        exact hRT ad ca H locs lsC off hG.2.2.2.1 hG.2.2.2.2.2.1.2 hG.2.2.2.2.1 hd hpv hrg
