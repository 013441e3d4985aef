/-! One instruction, the others that touch the heap -/
section
variable {p : Program} {l : Launch} {e : Env} {R : Room} {s : State} {m : MethodId} {args : Array Value} {below : List Frame} {meth : Method} {c : Code} {H : Heap} {locs : List Loc} {Q : State → Prop}
variable {w : zW} {D : va_G} {B0 : Nat} {v0 : Value} {ph ini : Bool} {ad0 ad : Int → Nat} {ca : Int → ClassId} {σ : zMem} {cd : List zQ} {nL j d y own off : Nat} {n0 : Int} {b : ByteArray} {lsC : Array Slot} {ls st : List zV} {r : Int × zMem} {ret : Option FieldType}
variable {kn : Nat → List zV → List zV → zMem → Option (Int × zMem)} {kc : zKC zMem (Option (Int × zMem))} {an : List Nat} {az : List Int}

theorem zfin (G : zGd meth ini w D B0 v0 ph s nL n0 ad0 ad ca σ H locs lsC ls st) (K : zKt0 p l e R s m args below meth c Q w D B0 v0 ph cd nL n0 ad0 r kn) {v : zV} {st' : List zV} (h : kn (j + 1) ls (v :: st') σ = some r) (hv : zvok w (σ 0 0) v) (hs : zvoks w (σ 0 0) st') : W p l e R s m args below meth c H locs (σ 0 0 - n0).toNat (zsl w (σ 0 0) - zsl w n0) Q (F0 m (zoff cd (j + 1)) lsC (zcv ad v0 v :: st'.map (zcv ad v0))) :=
  zNX_of K G _ _ _ _ h G.2.2.2.2.2.2.1 G.2.2.2.2.2.2.2.1 (zvoks_cons.mpr ⟨hv, hs⟩) G.2.2.2.2.2.2.2.2.2
theorem zs_iaload (C : zCx p s m args c b nL own D B0) (G : zGd meth ini w D B0 v0 ph s nL n0 ad0 ad ca σ H locs lsC ls st) (K : zKt0 p l e R s m args below meth c Q w D B0 v0 ph cd nL n0 ad0 r kn) (hd : decode b off = .ok (.iaload, 1)) (ho : zoff cd (j + 1) = off + 1) (h : zstp zarR ph (zK w) (zR w) zrd zup zcp kn kc (fun x m => some (x, m)) none j ls st σ (.iaload) an az = some r) : W p l e R s m args below meth c H locs (σ 0 0 - n0).toNat (zsl w (σ 0 0) - zsl w n0) Q (F0 m off lsC (st.map (zcv ad v0))) := by
  have C0 := C
  have G0 := G
  obtain ⟨hx, hb, hml, hown, hts, hK, hB⟩ := C
  obtain ⟨hP, hv, hini, ⟨hW, hO, hS, hF⟩, g5, g6, hl, hlo, hso, hlen⟩ := G
  obtain ⟨cc, n, a, i, st', rfl, h2⟩ := zri_some h
  obtain ⟨⟨i0, i1⟩, h3⟩ := zite_some h2
  obtain ⟨k1, k2, k3⟩ := (zvoks_cons.mp (zvoks_cons.mp hso).2).1
  have hi : zc32 i := (zvoks_cons.mp hso).1
  have hs2 := (zvoks_cons.mp (zvoks_cons.mp hso).2).2
  by_cases e1 : cc = 20
  · subst e1
    have h4 : kn (j + 1) ls (zI (σ a i) :: st') σ = some r := h3
    have ha : 0 < a := zpos (w := w) k2 (by rw [k1]; show (0 : Int) < 20; decide) (by rw [k1]; show (20 : Int) ≠ 23; decide) (by rw [k1]; show (20 : Int) ≠ 24; decide) (by rw [k1]; show (20 : Int) ≠ 40; decide)
    have hsk := hW.2.2.1 a i ha k3 i0 (by rw [k1]; exact i1)
    have hc : zc32 (σ a i) := by unfold zsk at hsk; rw [zty20 k1] at hsk; exact hsk
    refine zh_iald hx hb hW ha k3 k1 hi i0 i1 hd ?_
    have k := zfin G0 K h4 hc hs2
    rw [ho] at k
    rw [show zsv w ad σ a i = zcv ad v0 (zI (σ a i)) by unfold zsv; rw [zty20 k1]; rfl]
    exact k
  · rw [if_neg e1] at h3
    obtain ⟨e2, h4⟩ := zite_some h3
    subst e2
    have ha : a < 0 := zold_neg (w := w) (Or.inl (by rw [k1]))
    have hn : n = (zK w a).2 := by rw [k1]
    obtain ⟨f1, f2, f3⟩ := zneg23 hP ha (by rw [k1])
    refine zh_iald23 hx hb hP hO hS ha (by rw [k1]) hi i0 (by rw [← hn]; exact i1) hd ?_
    have k := zfin G0 K h4 (f3 i i0 (by rw [← hn]; exact i1)) hs2
    rw [ho] at k
    exact k
theorem zs_baload (C : zCx p s m args c b nL own D B0) (G : zGd meth ini w D B0 v0 ph s nL n0 ad0 ad ca σ H locs lsC ls st) (K : zKt0 p l e R s m args below meth c Q w D B0 v0 ph cd nL n0 ad0 r kn) (hd : decode b off = .ok (.baload, 1)) (ho : zoff cd (j + 1) = off + 1) (h : zstp zarR ph (zK w) (zR w) zrd zup zcp kn kc (fun x m => some (x, m)) none j ls st σ (.baload) an az = some r) : W p l e R s m args below meth c H locs (σ 0 0 - n0).toNat (zsl w (σ 0 0) - zsl w n0) Q (F0 m off lsC (st.map (zcv ad v0))) := by
  have C0 := C
  have G0 := G
  obtain ⟨hx, hb, hml, hown, hts, hK, hB⟩ := C
  obtain ⟨hP, hv, hini, ⟨hW, hO, hS, hF⟩, g5, g6, hl, hlo, hso, hlen⟩ := G
  obtain ⟨cc, n, a, i, st', rfl, h2⟩ := zri_some h
  obtain ⟨k1, k2, k3⟩ := (zvoks_cons.mp (zvoks_cons.mp hso).2).1
  have hi : zc32 i := (zvoks_cons.mp hso).1
  have hs2 := (zvoks_cons.mp (zvoks_cons.mp hso).2).2
  by_cases e1 : cc = 22
  · subst e1
    rw [if_pos rfl] at h2
    obtain ⟨⟨i0, i1⟩, h4⟩ := zite_some h2
    have h4 : kn (j + 1) ls (zI (σ a i) :: st') σ = some r := h4
    have ha : 0 < a := zpos (w := w) k2 (by rw [k1]; show (0 : Int) < 22; decide) (by rw [k1]; show (22 : Int) ≠ 23; decide) (by rw [k1]; show (22 : Int) ≠ 24; decide) (by rw [k1]; show (22 : Int) ≠ 40; decide)
    have hsk := hW.2.2.1 a i ha k3 i0 (by rw [k1]; exact i1)
    have hc : 0 ≤ σ a i ∧ σ a i ≤ 1 := by unfold zsk at hsk; rw [zty22 k1] at hsk; exact hsk
    refine zh_zald hx hb hW ha k3 k1 hi i0 i1 hd ?_
    have k := zfin G0 K h4 (show zc32 (σ a i) from ⟨by omega, by omega⟩) hs2
    rw [ho] at k
    rw [show zsv w ad σ a i = zcv ad v0 (zI (σ a i)) by unfold zsv; rw [zty22 k1]; rfl]
    exact k
  · rw [if_neg e1] at h2
    obtain ⟨e2, h3⟩ := zite_some h2
    obtain ⟨⟨i0, i1⟩, h4⟩ := zite_some h3
    subst e2
    have ha : a < 0 := zold_neg (w := w) (Or.inr (Or.inl (by rw [k1])))
    obtain ⟨f1, f2, f3⟩ := zneg24 (w := w) ha (by rw [k1])
    refine zh_bald24 hx hb hO hS ha (by rw [k1]) hi i0 i1 hd ?_
    have k := zfin G0 K h4 (f3 i i0 i1).1 hs2
    rw [ho] at k
    exact k
theorem zs_laload (C : zCx p s m args c b nL own D B0) (G : zGd meth ini w D B0 v0 ph s nL n0 ad0 ad ca σ H locs lsC ls st) (K : zKt0 p l e R s m args below meth c Q w D B0 v0 ph cd nL n0 ad0 r kn) (hd : decode b off = .ok (.laload, 1)) (ho : zoff cd (j + 1) = off + 1) (h : zstp zarR ph (zK w) (zR w) zrd zup zcp kn kc (fun x m => some (x, m)) none j ls st σ (.laload) an az = some r) : W p l e R s m args below meth c H locs (σ 0 0 - n0).toNat (zsl w (σ 0 0) - zsl w n0) Q (F0 m off lsC (st.map (zcv ad v0))) := by
  have C0 := C
  have G0 := G
  obtain ⟨hx, hb, hml, hown, hts, hK, hB⟩ := C
  obtain ⟨hP, hv, hini, ⟨hW, hO, hS, hF⟩, g5, g6, hl, hlo, hso, hlen⟩ := G
  obtain ⟨cc, n, a, i, st', rfl, h2⟩ := zri_some h
  obtain ⟨⟨i0, i1⟩, h3⟩ := zite_some h2
  obtain ⟨e1, h4⟩ := zite_some h3
  subst e1
  obtain ⟨k1, k2, k3⟩ := (zvoks_cons.mp (zvoks_cons.mp hso).2).1
  have hi : zc32 i := (zvoks_cons.mp hso).1
  have hs2 := (zvoks_cons.mp (zvoks_cons.mp hso).2).2
  have h4 : kn (j + 1) ls (zJ (σ a i) :: st') σ = some r := h4
  have ha : 0 < a := zpos (w := w) k2 (by rw [k1]; show (0 : Int) < 21; decide) (by rw [k1]; show (21 : Int) ≠ 23; decide) (by rw [k1]; show (21 : Int) ≠ 24; decide) (by rw [k1]; show (21 : Int) ≠ 40; decide)
  have hsk := hW.2.2.1 a i ha k3 i0 (by rw [k1]; exact i1)
  have hc : zc64 (σ a i) := by unfold zsk at hsk; rw [zty21 k1] at hsk; exact hsk
  refine zh_lald hx hb hW ha k3 k1 hi i0 i1 hd ?_
  have k := zfin G0 K h4 hc hs2
  rw [ho] at k
  rw [show zsv w ad σ a i = zcv ad v0 (zJ (σ a i)) by unfold zsv; rw [zty21 k1]; rfl]
  exact k
theorem zs_aaload (C : zCx p s m args c b nL own D B0) (G : zGd meth ini w D B0 v0 ph s nL n0 ad0 ad ca σ H locs lsC ls st) (K : zKt0 p l e R s m args below meth c Q w D B0 v0 ph cd nL n0 ad0 r kn) (hd : decode b off = .ok (.aaload, 1)) (ho : zoff cd (j + 1) = off + 1) (h : zstp zarR ph (zK w) (zR w) zrd zup zcp kn kc (fun x m => some (x, m)) none j ls st σ (.aaload) an az = some r) : W p l e R s m args below meth c H locs (σ 0 0 - n0).toNat (zsl w (σ 0 0) - zsl w n0) Q (F0 m off lsC (st.map (zcv ad v0))) := by
  have C0 := C
  have G0 := G
  obtain ⟨hx, hb, hml, hown, hts, hK, hB⟩ := C
  obtain ⟨hP, hv, hini, ⟨hW, hO, hS, hF⟩, g5, g6, hl, hlo, hso, hlen⟩ := G
  obtain ⟨cc, n, a, i, st', rfl, h2⟩ := zri_some h
  obtain ⟨⟨i0, i1⟩, h3⟩ := zite_some h2
  obtain ⟨k1, k2, k3⟩ := (zvoks_cons.mp (zvoks_cons.mp hso).2).1
  have hi : zc32 i := (zvoks_cons.mp hso).1
  have hs2 := (zvoks_cons.mp (zvoks_cons.mp hso).2).2
  have hka : (zK w a).1 = cc := by rw [k1]
  by_cases e1 : cc = 33
  · subst e1
    have h4 : kn (j + 1) ls (zA 22 4096 (σ a i) :: st') σ = some r := h3
    have ha : 0 < a := zpos (w := w) k2 (by omega) (by omega) (by omega) (by omega)
    have hsk := hW.2.2.1 a i ha k3 i0 (by rw [k1]; exact i1)
    have hc : zvr w (σ 0 0) (σ a i) (22, 4096) := by unfold zsk at hsk; rw [zty33 k1] at hsk; exact hsk
    refine zh_aald hx hb hW ha k3 k1 (by decide) hi i0 i1 hd ?_
    have k := zfin G0 K h4 hc hs2
    rw [ho] at k
    rw [show zsv w ad σ a i = zcv ad v0 (zA 22 4096 (σ a i)) by unfold zsv; rw [zty33 k1]; rfl]
    exact k
  · rw [if_neg e1] at h3
    obtain ⟨⟨c0, c1⟩, h4⟩ := zite_some h3
    have ha : 0 < a := zpos (w := w) k2 (by omega) (by omega) (by omega) (by omega)
    have hsk := hW.2.2.1 a i ha k3 i0 (by rw [k1]; exact i1)
    have hset : σ a i = 1 ∧ kn (j + 1) ls (zA (zet cc).1 (zet cc).2 (zR w a i) :: st') σ = some r := by
      cases ph with
      | true => exact ⟨hF rfl a i ha k3 i0 (by rw [k1]; exact i1) (zty3 k1 c0 e1), h4⟩
      | false => exact zite_some h4
    have hc : zvr w (σ 0 0) (zR w a i) ((zet cc).1, (zet cc).2) := by
      unfold zsk at hsk; rw [zty3 k1 c0 e1] at hsk
      have h5 := hsk hset.1
      unfold ztg at h5
      rw [k1, if_neg (by show ¬ cc ≤ 13; omega)] at h5
      exact h5
    refine zh_aald hx hb hW ha k3 k1 c0 hi i0 i1 hd ?_
    have k := zfin G0 K hset.2 hc hs2
    rw [ho] at k
    rw [show zsv w ad σ a i = zcv ad v0 (zA (zet cc).1 (zet cc).2 (zR w a i)) by unfold zsv; rw [zty3 k1 c0 e1]; exact if_pos hset.1]
    exact k
theorem zs_iastore (C : zCx p s m args c b nL own D B0) (G : zGd meth ini w D B0 v0 ph s nL n0 ad0 ad ca σ H locs lsC ls st) (K : zKt0 p l e R s m args below meth c Q w D B0 v0 ph cd nL n0 ad0 r kn) (hd : decode b off = .ok (.iastore, 1)) (ho : zoff cd (j + 1) = off + 1) (h : zstp zarR ph (zK w) (zR w) zrd zup zcp kn kc (fun x m => some (x, m)) none j ls st σ (.iastore) an az = some r) : W p l e R s m args below meth c H locs (σ 0 0 - n0).toNat (zsl w (σ 0 0) - zsl w n0) Q (F0 m off lsC (st.map (zcv ad v0))) := by
  have C0 := C
  have G0 := G
  obtain ⟨hx, hb, hml, hown, hts, hK, hB⟩ := C
  obtain ⟨hP, hv, hini, ⟨hW, hO, hS, hF⟩, g5, g6, hl, hlo, hso, hlen⟩ := G
  obtain ⟨cc, n, a, i, x, st', rfl, h2⟩ := zrii_some h
  obtain ⟨⟨i0, i1⟩, h3⟩ := zite_some h2
  obtain ⟨e1, h4⟩ := zite_some h3
  subst e1
  obtain ⟨k1, k2, k3⟩ := (zvoks_cons.mp (zvoks_cons.mp (zvoks_cons.mp hso).2).2).1
  have hxc : zc32 x := (zvoks_cons.mp hso).1
  have hi : zc32 i := (zvoks_cons.mp (zvoks_cons.mp hso).2).1
  have hs2 := (zvoks_cons.mp (zvoks_cons.mp (zvoks_cons.mp hso).2).2).2
  have hka : (zK w a).1 = 20 := by rw [k1]
  have ha : 0 < a := zpos (w := w) k2 (by omega) (by omega) (by omega) (by omega)
  refine zh_iast hx hb hW ha k3 hS (hW.1 a ha k3).2.1 k1 hi i0 i1 hxc hd fun H1 locs1 w1 s1 => ?_
  have k := zK_put K G0 (zup_n (fun q => k2 q.1.symm)) w1 s1 (fun q => zFl_set (hF q) ha (by rw [zty20 k1]; decide)) hs2 (show kn (j + 1) ls st' (zup σ a i x) = some r from h4)
  rw [ho] at k
  exact k
theorem zs_bastore (C : zCx p s m args c b nL own D B0) (G : zGd meth ini w D B0 v0 ph s nL n0 ad0 ad ca σ H locs lsC ls st) (K : zKt0 p l e R s m args below meth c Q w D B0 v0 ph cd nL n0 ad0 r kn) (hd : decode b off = .ok (.bastore, 1)) (ho : zoff cd (j + 1) = off + 1) (h : zstp zarR ph (zK w) (zR w) zrd zup zcp kn kc (fun x m => some (x, m)) none j ls st σ (.bastore) an az = some r) : W p l e R s m args below meth c H locs (σ 0 0 - n0).toNat (zsl w (σ 0 0) - zsl w n0) Q (F0 m off lsC (st.map (zcv ad v0))) := by
  have C0 := C
  have G0 := G
  obtain ⟨hx, hb, hml, hown, hts, hK, hB⟩ := C
  obtain ⟨hP, hv, hini, ⟨hW, hO, hS, hF⟩, g5, g6, hl, hlo, hso, hlen⟩ := G
  obtain ⟨cc, n, a, i, x, st', rfl, h2⟩ := zrii_some h
  obtain ⟨⟨i0, i1⟩, h3⟩ := zite_some h2
  obtain ⟨e1, h4⟩ := zite_some h3
  subst e1
  obtain ⟨k1, k2, k3⟩ := (zvoks_cons.mp (zvoks_cons.mp (zvoks_cons.mp hso).2).2).1
  have hxc : zc32 x := (zvoks_cons.mp hso).1
  have hi : zc32 i := (zvoks_cons.mp (zvoks_cons.mp hso).2).1
  have hs2 := (zvoks_cons.mp (zvoks_cons.mp (zvoks_cons.mp hso).2).2).2
  have hka : (zK w a).1 = 22 := by rw [k1]
  have ha : 0 < a := zpos (w := w) k2 (by omega) (by omega) (by omega) (by omega)
  refine zh_zast hx hb hW ha k3 hS (hW.1 a ha k3).2.1 k1 hi i0 i1 hxc hd fun H1 locs1 w1 s1 => ?_
  have k := zK_put K G0 (zup_n (fun q => k2 q.1.symm)) w1 s1 (fun q => zFl_set (hF q) ha (by rw [zty22 k1]; decide)) hs2 (show kn (j + 1) ls st' (zup σ a i (x % 2)) = some r from h4)
  rw [ho] at k
  exact k
theorem zs_lastore (C : zCx p s m args c b nL own D B0) (G : zGd meth ini w D B0 v0 ph s nL n0 ad0 ad ca σ H locs lsC ls st) (K : zKt0 p l e R s m args below meth c Q w D B0 v0 ph cd nL n0 ad0 r kn) (hd : decode b off = .ok (.lastore, 1)) (ho : zoff cd (j + 1) = off + 1) (h : zstp zarR ph (zK w) (zR w) zrd zup zcp kn kc (fun x m => some (x, m)) none j ls st σ (.lastore) an az = some r) : W p l e R s m args below meth c H locs (σ 0 0 - n0).toNat (zsl w (σ 0 0) - zsl w n0) Q (F0 m off lsC (st.map (zcv ad v0))) := by
  have C0 := C
  have G0 := G
  obtain ⟨hx, hb, hml, hown, hts, hK, hB⟩ := C
  obtain ⟨hP, hv, hini, ⟨hW, hO, hS, hF⟩, g5, g6, hl, hlo, hso, hlen⟩ := G
  obtain ⟨cc, n, a, i, x, st', rfl, h2⟩ := zrij_some h
  obtain ⟨⟨i0, i1⟩, h3⟩ := zite_some h2
  obtain ⟨e1, h4⟩ := zite_some h3
  subst e1
  obtain ⟨k1, k2, k3⟩ := (zvoks_cons.mp (zvoks_cons.mp (zvoks_cons.mp hso).2).2).1
  have hxc : zc64 x := (zvoks_cons.mp hso).1
  have hi : zc32 i := (zvoks_cons.mp (zvoks_cons.mp hso).2).1
  have hs2 := (zvoks_cons.mp (zvoks_cons.mp (zvoks_cons.mp hso).2).2).2
  have hka : (zK w a).1 = 21 := by rw [k1]
  have ha : 0 < a := zpos (w := w) k2 (by omega) (by omega) (by omega) (by omega)
  refine zh_last hx hb hW ha k3 hS (hW.1 a ha k3).2.1 k1 hi i0 i1 hxc hd fun H1 locs1 w1 s1 => ?_
  have k := zK_put K G0 (zup_n (fun q => k2 q.1.symm)) w1 s1 (fun q => zFl_set (hF q) ha (by rw [zty21 k1]; decide)) hs2 (show kn (j + 1) ls st' (zup σ a i x) = some r from h4)
  rw [ho] at k
  exact k
theorem zinit_str : Jvm.Cond.initialized "java/lang/String" ∈ lw_tbl := by
  obtain ⟨md, h⟩ : ∃ md, znth zmd 345 = some md := ⟨_, rfl⟩
  have h1 := (zmd_get h).1.2.1
  cases h
  exact h1
theorem zcls_init {cls : String} {cc : ClassId} (h : (Jvm.Cond.initialized cls).before args s = true) (hf : s.vm.findClass cls = some cc) : ∃ k, s.vm.classes[cc]? = some k := by
  cases hk : s.vm.classes[cc]? with
  | some k => exact ⟨k, rfl⟩
  | none =>
    exfalso
    simp only [Jvm.Cond.before, Jvm.Cond.holds, Jvm.Cond.value, hf] at h
    simp [hk] at h
theorem zs_aastore (C : zCx p s m args c b nL own D B0) (G : zGd meth ini w D B0 v0 ph s nL n0 ad0 ad ca σ H locs lsC ls st) (K : zKt0 p l e R s m args below meth c Q w D B0 v0 ph cd nL n0 ad0 r kn) (hd : decode b off = .ok (.aastore, 1)) (ho : zoff cd (j + 1) = off + 1) (h : zstp zarR ph (zK w) (zR w) zrd zup zcp kn kc (fun x m => some (x, m)) none j ls st σ (.aastore) an az = some r) : W p l e R s m args below meth c H locs (σ 0 0 - n0).toNat (zsl w (σ 0 0) - zsl w n0) Q (F0 m off lsC (st.map (zcv ad v0))) := by
  have C0 := C
  have G0 := G
  obtain ⟨hx, hb, hml, hown, hts, hK, hB⟩ := C
  obtain ⟨hP, hv, hini, ⟨hW, hO, hS, hF⟩, g5, g6, hl, hlo, hso, hlen⟩ := G
  obtain ⟨cc, n, a, i, c2, n2, x, st', rfl, h2⟩ := zrir_some h
  obtain ⟨⟨i0, i1⟩, h3⟩ := zite_some h2
  obtain ⟨k1, k2, k3⟩ := (zvoks_cons.mp (zvoks_cons.mp (zvoks_cons.mp hso).2).2).1
  obtain ⟨m1, m2, m3⟩ := (zvoks_cons.mp hso).1
  have hi : zc32 i := (zvoks_cons.mp (zvoks_cons.mp hso).2).1
  have hs2 := (zvoks_cons.mp (zvoks_cons.mp (zvoks_cons.mp hso).2).2).2
  have hka : (zK w a).1 = cc := by rw [k1]
  have hkx : (zK w x).1 = c2 := by rw [m1]
  by_cases e1 : cc = 33
  · subst e1
    rw [if_pos rfl] at h3
    obtain ⟨⟨e2, e3⟩, h4⟩ := zite_some h3
    subst e2; subst e3
    have ha : 0 < a := zpos (w := w) k2 (by omega) (by omega) (by omega) (by omega)
    have hx0 : 0 < x := zpos (w := w) m2 (by omega) (by omega) (by omega) (by omega)
    obtain ⟨hcx, hKx⟩ := zarr hW hx0 m3 m1 (by decide)
    obtain ⟨-, kv, hkv, -⟩ := hKx.1 0 (fun _ => .null)
    refine zh_aast (x := x) (v := ad x) hx hb hW ha k3 hS (hW.1 a ha k3).2.1 k1 (by decide) hi i0 i1 hcx (fun q z => by cases z) hkv (hKx.2.1 rfl) ?_ ?_ hd fun H1 locs1 w1 s1 => ?_
    · unfold zsv; rw [zty33 k1, zup_s k2]; rfl
    · unfold zsk; rw [zty33 k1, zup_s k2, zup_n (fun q => k2 q.1.symm)]; exact ⟨m1, m2, m3⟩
    · have k := zK_put K G0 (zup_n (fun q => k2 q.1.symm)) w1 s1 (fun q => zFl_set (hF q) ha (by rw [zty33 k1]; decide)) hs2 (show kn (j + 1) ls st' (zup σ a i x) = some r from h4)
      rw [ho] at k
      exact k
  · rw [if_neg e1] at h3
    cases ph with
    | true => cases h3
    | false =>
      obtain ⟨⟨e2, e3, e4, e5⟩, h4⟩ := zite_some h3
      have h30 : 30 ≤ cc := by omega
      have ha : 0 < a := zpos (w := w) k2 (by omega) (by omega) (by omega) (by omega)
      have hcell : ∃ (cv : Cell) (kv : Class), H[ad x]? = some cv ∧ (∀ q, cv.vm ≠ .statics q) ∧ s.vm.classes[cv.cls]? = some kv ∧ s.vm.findClass (zcompN cc) = some cv.cls := by
        have hobj : ∀ oc : Nat, 0 < oc → oc ≤ 13 → oc ≠ 3 → c2 = (oc : Int) → zcompN cc = zcnOf oc → ∃ (cv : Cell) (kv : Class), H[ad x]? = some cv ∧ (∀ q, cv.vm ≠ .statics q) ∧ s.vm.classes[cv.cls]? = some kv ∧ s.vm.findClass (zcompN cc) = some cv.cls := by
          intro oc o1 o2 o5 o3 o4
          obtain ⟨cv, f1, f2, f3⟩ := zrcv (tc := c2) (tn := n2) (ra := x) C0 ⟨hW, hO, hS, hF⟩ ⟨m1, m2, m3⟩ (oc := oc) (by rw [if_neg (by omega)]; exact o3) (Or.inl ⟨o1, o2⟩)
          have hzl : ∃ q, znth zcl (oc - 1) = some q := by
            rw [znth_get]
            exact ⟨_, List.getElem?_eq_getElem (by show oc - 1 < 13; omega)⟩
          obtain ⟨q, hq⟩ := hzl
          obtain ⟨-, g1, kC, g2, -⟩ := hK _ _ hq (zcl_pos _ _ hq (by omega))
          have hz : ((List.range 13).all fun c => match znth zcl c with
            | some r => r.1 == zcnOf (c + 1)
            | none => false) = true := by decide +kernel
          have hz1 := List.all_eq_true.mp hz (oc - 1) (List.mem_range.mpr (by omega))
          rw [hq] at hz1
          have hz2 := eq_of_beq hz1
          rw [show oc - 1 + 1 = oc by omega] at hz2
          rw [← hz2] at f3
          have ec := Option.some.inj (g1.symm.trans f3)
          refine ⟨cv, kC, f1, fun z hz3 => ?_, by rw [← ec]; exact g2, by rw [o4, ← hz2]; exact f3⟩
          rw [hz3] at f2
          cases f2
        rcases e2 with rfl | rfl | rfl
        · exact hobj 2 (by decide) (by decide) (by decide) e3 rfl
        · exact hobj 6 (by decide) (by decide) (by decide) e3 rfl
        · have e3 : c2 = 40 := e3
          have hneg : x < 0 := zold_neg (w := w) (Or.inr (Or.inr (by omega)))
          obtain ⟨cell, f1, f2, f3, -⟩ := ((hO.2.1 x hneg (by omega)).1).kept hS.2.1
          obtain ⟨kv, hkv⟩ := zcls_init (zwarm_hts hts zinit_str rfl) f3
          refine ⟨cell, kv, f1, fun z hz3 => ?_, hkv, f3⟩
          rw [hz3] at f2
          cases f2
      obtain ⟨cv, kv, f1, f2, f3, f4⟩ := hcell
      refine zh_aast (x := 1) (v := ad x) hx hb hW ha k3 hS (hW.1 a ha k3).2.1 k1 h30 hi i0 i1 f1 f2 f3 f4 ?_ ?_ hd fun H1 locs1 w1 s1 => ?_
      · unfold zsv; rw [zty3 k1 h30 e1, zup_s k2, ← e5]; exact if_pos rfl
      · unfold zsk; rw [zty3 k1 h30 e1, zup_s k2, zup_n (fun q => k2 q.1.symm)]
        intro _
        unfold ztg
        rw [k1, if_neg (by show ¬ cc ≤ 13; omega), ← e5]
        refine ⟨?_, m2, m3⟩
        rw [m1, e3, e4]
      · have k := zK_put K G0 (zup_n (fun q => k2 q.1.symm)) w1 s1 (fun q => by cases q) hs2 (show kn (j + 1) ls st' (zup σ a i 1) = some r from h4)
        rw [ho] at k
        exact k
theorem zs_alen (C : zCx p s m args c b nL own D B0) (G : zGd meth ini w D B0 v0 ph s nL n0 ad0 ad ca σ H locs lsC ls st) (K : zKt0 p l e R s m args below meth c Q w D B0 v0 ph cd nL n0 ad0 r kn) (hd : decode b off = .ok (.arraylength, 1)) (ho : zoff cd (j + 1) = off + 1) (h : zstp zarR ph (zK w) (zR w) zrd zup zcp kn kc (fun x m => some (x, m)) none j ls st σ (.arraylength) an az = some r) : W p l e R s m args below meth c H locs (σ 0 0 - n0).toNat (zsl w (σ 0 0) - zsl w n0) Q (F0 m off lsC (st.map (zcv ad v0))) := by
  have C0 := C
  have G0 := G
  obtain ⟨hx, hb, hml, hown, hts, hK, hB⟩ := C
  obtain ⟨hP, hv, hini, ⟨hW, hO, hS, hF⟩, g5, g6, hl, hlo, hso, hlen⟩ := G
  obtain ⟨cc, n, a, st', rfl, h2⟩ := zr1_some h
  obtain ⟨k1, k2, k3⟩ := (zvoks_cons.mp hso).1
  have hs2 := (zvoks_cons.mp hso).2
  have hka : (zK w a).1 = cc := by rw [k1]
  have hkn : (zK w a).2 = n := by rw [k1]
  by_cases e1 : cc = 24
  · subst e1
    rw [if_pos rfl] at h2
    have ha : a < 0 := zold_neg (w := w) (Or.inr (Or.inl hka))
    obtain ⟨f1, f2, f3⟩ := zneg24 (w := w) ha hka
    have k := zfin G0 K (show kn (j + 1) ls (zI (zR w a (-1)) :: st') σ = some r from h2) (show zc32 _ from ⟨by omega, by omega⟩) hs2
    rw [ho] at k
    exact zh_alenT hx hb (hO.2.2.1 a ha hka) hS (by omega) hd k
  · rw [if_neg e1] at h2
    obtain ⟨⟨c0, c1⟩, h3⟩ := zite_some h2
    by_cases ha : a < 0
    · rcases zneg_codes (w := w) ha with q | q | q | q
      · omega
      · obtain ⟨f1, f2, f3⟩ := zneg23 hP ha q
        have k := zfin G0 K h3 (show zc32 n from ⟨by omega, by omega⟩) hs2
        rw [ho] at k
        exact zh_alenT hx hb (hO.1 a ha q) hS (by rw [hkn]; omega) hd k
      · omega
      · omega
    · have ha : 0 < a := by omega
      have hL := zK_len (w := w) ha
      have k := zfin G0 K h3 (show zc32 n from ⟨by omega, by omega⟩) hs2
      rw [ho] at k
      exact zh_alen hx hb hW ha k3 k1 (by omega) (by omega) (by omega) hd k
theorem zs_getstatic {idx : Nat} (C : zCx p s m args c b nL own D B0) (G : zGd meth ini w D B0 v0 ph s nL n0 ad0 ad ca σ H locs lsC ls st) (K : zKt0 p l e R s m args below meth c Q w D B0 v0 ph cd nL n0 ad0 r kn) (hax : zaux cd y own ret ini (off, .getstatic idx, an, az) = true) (hd : decode b off = .ok (.getstatic idx, 3)) (ho : zoff cd (j + 1) = off + 3) (h : zstp zarR ph (zK w) (zR w) zrd zup zcp kn kc (fun x m => some (x, m)) none j ls st σ (.getstatic idx) an az = some r) : W p l e R s m args below meth c H locs (σ 0 0 - n0).toNat (zsl w (σ 0 0) - zsl w n0) Q (F0 m off lsC (st.map (zcv ad v0))) := by
  have C0 := C
  have G0 := G
  obtain ⟨hx, hb, hml, hown, hts, hK, hB⟩ := C
  obtain ⟨hP, hv, hini, ⟨hW, hO, hS, hF⟩, g5, g6, hl, hlo, hso, hlen⟩ := G
  have n1 : 1 ≤ σ 0 0 := hW.2.2.2.2.1
  unfold zaux at hax
  dsimp only at hax
  split at hax
  · obtain ⟨e1, e2⟩ := of_decide_eq_true hax
    subst e1; subst e2
    have k := zfin G0 K (show kn (j + 1) ls (zA 23 18 (-2) :: st) σ = some r from h) ⟨rfl, by decide, by omega⟩ hso
    rw [ho] at k
    exact zh_gs hx hb hts hO.2.2.2.1 hS hown zw_und (fun _ h => h) hd k
  · obtain ⟨e1, e2⟩ := of_decide_eq_true hax
    subst e1; subst e2
    have k := zfin G0 K (show kn (j + 1) ls (zA 23 18 (-3) :: st) σ = some r from h) ⟨rfl, by decide, by omega⟩ hso
    rw [ho] at k
    exact zh_gs hx hb hts hO.2.2.2.2.1 hS hown zw_num (fun _ h => h) hd k
  · obtain ⟨e1, e2⟩ := of_decide_eq_true hax
    subst e1; subst e2
    have k := zfin G0 K (show kn (j + 1) ls (zI 1 :: st) σ = some r from h) (show zc32 1 from ⟨by decide, by decide⟩) hso
    rw [ho] at k
    exact zh_gs hx hb hts hO.2.2.2.2.2.1 hS hown zw_cmp (fun _ h => h) hd k
  · obtain ⟨e1, e2⟩ := of_decide_eq_true hax
    subst e1; subst e2
    have k := zfin G0 K (show kn (j + 1) ls (zU :: st) σ = some r from h) trivial hso
    rw [ho] at k
    exact zh_gs hx hb hts hO.2.2.2.2.2.2.1 hS hown zw_fmt (fun _ h => h) hd k
  · cases hax
theorem zs_ldc {idx : Nat} (C : zCx p s m args c b nL own D B0) (G : zGd meth ini w D B0 v0 ph s nL n0 ad0 ad ca σ H locs lsC ls st) (K : zKt0 p l e R s m args below meth c Q w D B0 v0 ph cd nL n0 ad0 r kn) (hax : zaux cd y own ret ini (off, .ldc idx, an, az) = true) (hd : decode b off = .ok (.ldc idx, 2)) (ho : zoff cd (j + 1) = off + 2) (h : zstp zarR ph (zK w) (zR w) zrd zup zcp kn kc (fun x m => some (x, m)) none j ls st σ (.ldc idx) an az = some r) : W p l e R s m args below meth c H locs (σ 0 0 - n0).toNat (zsl w (σ 0 0) - zsl w n0) Q (F0 m off lsC (st.map (zcv ad v0))) := by
  have C0 := C
  have G0 := G
  obtain ⟨hx, hb, hml, hown, hts, hK, hB⟩ := C
  obtain ⟨hP, hv, hini, ⟨hW, hO, hS, hF⟩, g5, g6, hl, hlo, hso, hlen⟩ := G
  unfold zaux at hax
  dsimp only at hax
  split at hax
  · simp only [Bool.and_eq_true, decide_eq_true_eq] at hax
    exact zp_ldc (own := zcnOf own) (zST_of C0 G0) (zNX_of K G0) hd ho hown hax.2 (hts _ (zin (zcis_ok _ hax.1) rfl)) h
  · rename_i e0 a
    simp only [Bool.and_eq_true, decide_eq_true_eq] at hax
    have hz := zsis_K (w := w) _ hax.1
    have n1 : 1 ≤ σ 0 0 := hW.2.2.2.2.1
    have hlt : a < 0 := hz.2
    have k := zfin G0 K (show kn (j + 1) ls (zA 40 0 a :: st) σ = some r from h) ⟨hz.1, by omega, by omega⟩ hso
    rw [ho] at k
    exact zh_ldcS (q := (own, idx, a)) hx hb hO hown hax.1 hd k
  · cases hax
theorem zs_ldcw {idx : Nat} (C : zCx p s m args c b nL own D B0) (G : zGd meth ini w D B0 v0 ph s nL n0 ad0 ad ca σ H locs lsC ls st) (K : zKt0 p l e R s m args below meth c Q w D B0 v0 ph cd nL n0 ad0 r kn) (hax : zaux cd y own ret ini (off, .ldc_w idx, an, az) = true) (hd : decode b off = .ok (.ldc_w idx, 3)) (ho : zoff cd (j + 1) = off + 3) (h : zstp zarR ph (zK w) (zR w) zrd zup zcp kn kc (fun x m => some (x, m)) none j ls st σ (.ldc_w idx) an az = some r) : W p l e R s m args below meth c H locs (σ 0 0 - n0).toNat (zsl w (σ 0 0) - zsl w n0) Q (F0 m off lsC (st.map (zcv ad v0))) := by
  have C0 := C
  have G0 := G
  obtain ⟨hx, hb, hml, hown, hts, hK, hB⟩ := C
  obtain ⟨hP, hv, hini, ⟨hW, hO, hS, hF⟩, g5, g6, hl, hlo, hso, hlen⟩ := G
  unfold zaux at hax
  dsimp only at hax
  split at hax
  · simp only [Bool.and_eq_true, decide_eq_true_eq] at hax
    exact zp_ldcw (own := zcnOf own) (zST_of C0 G0) (zNX_of K G0) hd ho hown hax.2 (hts _ (zin (zcis_ok _ hax.1) rfl)) h
  · cases hax
theorem zs_ldc2 {idx : Nat} (C : zCx p s m args c b nL own D B0) (G : zGd meth ini w D B0 v0 ph s nL n0 ad0 ad ca σ H locs lsC ls st) (K : zKt0 p l e R s m args below meth c Q w D B0 v0 ph cd nL n0 ad0 r kn) (hax : zaux cd y own ret ini (off, .ldc2_w idx, an, az) = true) (hd : decode b off = .ok (.ldc2_w idx, 3)) (ho : zoff cd (j + 1) = off + 3) (h : zstp zarR ph (zK w) (zR w) zrd zup zcp kn kc (fun x m => some (x, m)) none j ls st σ (.ldc2_w idx) an az = some r) : W p l e R s m args below meth c H locs (σ 0 0 - n0).toNat (zsl w (σ 0 0) - zsl w n0) Q (F0 m off lsC (st.map (zcv ad v0))) := by
  have C0 := C
  have G0 := G
  obtain ⟨hx, hb, hml, hown, hts, hK, hB⟩ := C
  obtain ⟨hP, hv, hini, ⟨hW, hO, hS, hF⟩, g5, g6, hl, hlo, hso, hlen⟩ := G
  unfold zaux at hax
  dsimp only at hax
  split at hax
  · simp only [Bool.and_eq_true, decide_eq_true_eq] at hax
    exact zp_ldc2 (own := zcnOf own) (zST_of C0 G0) (zNX_of K G0) hd ho hown hax.2 (hts _ (zin (zlis_ok _ hax.1) rfl)) h
  · cases hax
end
