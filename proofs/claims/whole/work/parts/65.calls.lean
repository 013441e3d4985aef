/-! One instruction: objects made, calls, ends -/
def zrins (k : Nat) : Jvm.ClassFile.Instr := match k with
  | 0 => .return_
  | 2 => .lreturn
  | 3 => .areturn
  | _ => .ireturn
def zrng (k : Nat) (x : Int) : Prop := match k with
  | 4 => 0 ≤ x ∧ x ≤ 1
  | 5 => 0 ≤ x ∧ x ≤ 65535
  | 6 => -128 ≤ x ∧ x ≤ 127
  | _ => True
theorem zpush_app (k : Nat) (c n x : Int) (st : List zV) : zpush k c n x st = zpush k c n x [] ++ st := by
  rcases k with _ | _ | _ | _ | k <;> rfl
theorem zrtP_eq {y : Nat} {az : List Int} {c2 n2 : Int} (h : ([c2, n2] ++ az).take 2 = zrtagOf y) : zrtP y = (c2, n2) := by
  unfold zrtP
  rw [← h]
  rfl
theorem zent_spec {own idx e y n k : Nat} {stat : Bool} {az : List Int} (h : zentOK own idx stat [e, y, n, k] az = true) : ∃ (md : zMd) (host : String), znth zmd y = some md ∧ md.2.2.2.2.1 = stat ∧ n = md.2.2.2.2.2.1 + (if stat then 0 else 1) ∧ k = zkindOf md.2.2.2.1 ∧ az.take 2 = zrtagOf y ∧
    ((host = "" → Jvm.Cond.methodLink (zcnOf own) idx md.1 ∈ lw_tbl) ∧ (host ≠ "" → Jvm.Cond.methodLinkNest (zcnOf own) idx md.1 host ∈ lw_tbl)) ∧ (stat = false → az.drop 2 = [if md.2.2.2.2.2.2 = 17 then 40 else (md.2.2.2.2.2.2 : Int)]) := by
  unfold zentOK at h
  dsimp only at h
  split at h
  · rename_i own' idx' y' host hme
    split at h
    · rename_i nm bs ml ret st np oc hmd
      simp only [Bool.and_eq_true, decide_eq_true_eq] at h
      obtain ⟨⟨⟨⟨⟨⟨⟨z1, z2⟩, z3⟩, z4⟩, z5⟩, z6⟩, z7⟩, z8⟩ := h
      have z1 := Nat.eq_of_beq_eq_true z1
      have z2 := Nat.eq_of_beq_eq_true z2
      have z3 := Nat.eq_of_beq_eq_true z3
      have z4 := eq_of_beq z4
      have z5 := Nat.eq_of_beq_eq_true z5
      have z6 := Nat.eq_of_beq_eq_true z6
      subst z1; subst z2; subst z3; subst z4
      obtain ⟨q, hq, hl⟩ := zmes_ok _ (List.mem_of_getElem? (by rw [znth_get] at hme; exact hme))
      have hq : znth zmd y' = some q := hq
      rw [hmd] at hq
      cases hq
      refine ⟨_, host, hmd, rfl, z5, z6, z7, hl, fun q => ?_⟩
      subst q
      exact of_decide_eq_true z8
    · cases h
  · cases h
section
variable {p : Program} {l : Launch} {e : Env} {R : Room} {s : State} {m : MethodId} {args : Array Value} {below : List Frame} {meth : Method} {c : Code} {H : Heap} {locs : List Loc} {Q : State → Prop}
variable {w : zW} {D : va_G} {B0 : Nat} {v0 : Value} {ph ini : Bool} {ad0 ad : Int → Nat} {ca : Int → ClassId} {σ : zMem} {cd : List zQ} {nL j d y own off : Nat} {n0 : Int} {b : ByteArray} {lsC : Array Slot} {ls st : List zV} {r : Int × zMem} {ret : Option FieldType}
variable {kn : Nat → List zV → List zV → zMem → Option (Int × zMem)} {kc : zKC zMem (Option (Int × zMem))} {an : List Nat} {az : List Int}

variable {d' : Nat}
theorem zK_new {k : Nat} {σ' : zMem} {ad' : Int → Nat} {ca' : Int → ClassId} {H' : Heap} {v : zV} {st' : List zV} (K : zKt0 p l e R s m args below meth c Q w D B0 v0 ph cd nL n0 ad0 r kn) (G : zGd meth ini w D B0 v0 ph s nL n0 ad0 ad ca σ H locs lsC ls st) (h0 : σ' 0 0 = σ 0 0 + k) (hw : zWo w D B0 ad' ca' σ' s H') (hs : va_S (zA0 B0) s.heap H' locs) (hph : ph = false) (had : ∀ a : Int, a < σ 0 0 → ad' a = ad a) (hv : zvok w (σ' 0 0) v) (hst : zvoks w (σ 0 0) st') (h : kn (j + 1) ls (v :: st') σ' = some r) :
    W p l e R s m args below meth c H' locs (σ 0 0 + k - n0).toNat (zsl w (σ 0 0 + k) - zsl w n0) Q (F0 m (zoff cd (j + 1)) lsC (zcv ad' v0 v :: st'.map (zcv ad v0))) := by
  obtain ⟨g1, g2, g3, g4, g5, g6, g7, g8, g9, g10⟩ := G
  have n1 : 1 ≤ σ 0 0 := g4.1.2.2.2.2.1
  have k := K _ _ _ _ ad' ca' H' locs lsC h ⟨hw, g4.2.1.ad (fun a q => had a (by omega)), hs, fun q => by rw [hph] at q; cases q⟩ (fun a q => (had a (by omega)).trans (g6.2 a q)) (by rw [h0]; omega) (by rw [zlv_ad had 0 g8]; exact g7) (by rw [h0]; exact zvoks_up (by omega) g8) (zvoks_cons.mpr ⟨hv, by rw [h0]; exact zvoks_up (by omega) hst⟩) g10
  rw [h0, List.map_cons, zmap_ad had hst] at k
  exact k
theorem zcns2_pos : ∀ q ∈ zcns2, 0 < q.2.2.2 := by
  intro q hq
  have h : (zcns2.all fun q => decide (0 < q.2.2.2)) = true := by decide +kernel
  exact of_decide_eq_true (List.all_eq_true.mp h q hq)
theorem zs_new {idx : Nat} (C : zCx p s m args c b nL own D B0) (G : zGd meth ini w D B0 v0 ph s nL n0 ad0 ad ca σ H locs lsC ls st) (K : zKt0 p l e R s m args below meth c Q w D B0 v0 ph cd nL n0 ad0 r kn) (HR : zRm R w n0 d r) (ge : ∀ j ls st σ', kn j ls st σ' = some r → σ' 0 0 ≤ r.2 0 0) (hax : zaux cd y own ret ini (off, .new idx, an, az) = true) (hd : decode b off = .ok (.new idx, 3)) (ho : zoff cd (j + 1) = off + 3) (h : zstp zarR ph (zK w) (zR w) zrd zup zcp kn kc (fun x m => some (x, m)) none j ls st σ (.new idx) an az = some r) : W p l e R s m args below meth c H locs (σ 0 0 - n0).toNat (zsl w (σ 0 0) - zsl w n0) Q (F0 m off lsC (st.map (zcv ad v0))) := by
  have C0 := C
  have G0 := G
  obtain ⟨hx, hb, hml, hown, hts, hK, hB⟩ := C
  obtain ⟨hP, hv, hini, ⟨hW, hO, hS, hF⟩, g5, g6, hl, hlo, hso, hlen⟩ := G
  have n1 : 1 ≤ σ 0 0 := hW.2.2.2.2.1
  have sl0 := zsl_le w (n := n0) (m := σ 0 0) (by omega) g5
  cases ph with
  | true => cases h
  | false =>
    unfold zaux at hax
    dsimp only at hax
    split at hax
    · rename_i e0 cc n
      have hin := of_decide_eq_true hax
      obtain ⟨hk, h3⟩ := zite_some (show (if zK w (σ 0 0) = ((cc : Int), (n : Int)) then kn (j + 1) ls (zA cc n (σ 0 0) :: st) (zup σ 0 0 (σ 0 0 + 1)) else none) = some r from h)
      have he : zcnOK (own, idx, cc, n) := zcns2_ok _ hin
      have e0 : zup σ 0 0 (σ 0 0 + 1) 0 0 = σ 0 0 + 1 := zup_0 (by omega)
      have g := ge _ _ _ _ h3
      rw [e0] at g
      have s1 := zsl_s w (n := σ 0 0) (by omega)
      rw [hk] at s1
      have s1 : zsl w (σ 0 0 + 1) = zsl w (σ 0 0) + n := s1
      have s2 := zsl_le w (n := σ 0 0 + 1) (m := r.2 0 0) (by omega) g
      obtain ⟨r1, r2, r3, r4⟩ := HR
      have hc13 : cc ≤ 13 := by
        obtain ⟨rr, f1, f2, -⟩ := he
        have f1 : znth zcl (cc - 1) = some rr := f1
        have := znth_len f1
        have : cc - 1 < 13 := this
        omega
      refine zh_new (en := (own, idx, cc, n)) he (zcns2_pos _ hin) hx hb hts hK hW hS (Nat.le_trans hB hS.1) hown hk hc13 (by omega) (by show _ + n ≤ _; omega) hd fun H1 w1 s3 z1 => ?_
      have had : ∀ a : Int, a < σ 0 0 → zad1 ad (σ 0 0) H.size a = ad a := fun a q => zad1_n (by omega)
      have k := zK_new (k := 1) K G0 e0 w1 s3 rfl had (v := zA cc n (σ 0 0)) ⟨hk, by omega, by rw [e0]; omega⟩ hso h3
      rw [ho] at k
      have k2 : W p l e R s m args below meth c H1 locs (σ 0 0 + (1 : Nat) - n0).toNat (zsl w (σ 0 0 + (1 : Nat)) - zsl w n0) Q (F0 m (off + 3) lsC (.ref (zad1 ad (σ 0 0) H.size (σ 0 0)) :: st.map (zcv ad v0))) := k
      rw [zad1_s] at k2
      exact W.cs (by omega) (by show _ + n = zsl w (σ 0 0 + 1) - _; omega) k2
    · cases hax
theorem zs_newarray {t : ArrayType} (C : zCx p s m args c b nL own D B0) (G : zGd meth ini w D B0 v0 ph s nL n0 ad0 ad ca σ H locs lsC ls st) (K : zKt0 p l e R s m args below meth c Q w D B0 v0 ph cd nL n0 ad0 r kn) (HR : zRm R w n0 d r) (ge : ∀ j ls st σ', kn j ls st σ' = some r → σ' 0 0 ≤ r.2 0 0) (hax : zaux cd y own ret ini (off, .newarray t, an, az) = true) (hd : decode b off = .ok (.newarray t, 2)) (ho : zoff cd (j + 1) = off + 2) (h : zstp zarR ph (zK w) (zR w) zrd zup zcp kn kc (fun x m => some (x, m)) none j ls st σ (.newarray t) an az = some r) : W p l e R s m args below meth c H locs (σ 0 0 - n0).toNat (zsl w (σ 0 0) - zsl w n0) Q (F0 m off lsC (st.map (zcv ad v0))) := by
  have C0 := C
  have G0 := G
  obtain ⟨hx, hb, hml, hown, hts, hK, hB⟩ := C
  obtain ⟨hP, hv, hini, ⟨hW, hO, hS, hF⟩, g5, g6, hl, hlo, hso, hlen⟩ := G
  have n1 : 1 ≤ σ 0 0 := hW.2.2.2.2.1
  have sl0 := zsl_le w (n := n0) (m := σ 0 0) (by omega) g5
  cases ph with
  | true => cases h
  | false =>
    have main : ∀ cc : Nat, an = [cc] → (cc = 20 ∧ t = .int ∨ cc = 21 ∧ t = .long ∨ cc = 22 ∧ t = .boolean) → W p l e R s m args below meth c H locs (σ 0 0 - n0).toNat (zsl w (σ 0 0) - zsl w n0) Q (F0 m off lsC (st.map (zcv ad v0))) := by
      intro cc ean hcc
      subst ean
      obtain ⟨x, st', rfl, h2⟩ := zi1_some h
      obtain ⟨hk, h3⟩ := zite_some (show (if zK w (σ 0 0) = ((cc : Int), x) then kn (j + 1) ls (zA cc x (σ 0 0) :: st') (zup σ 0 0 (σ 0 0 + 1)) else none) = some r from h2)
      have e0 : zup σ 0 0 (σ 0 0 + 1) 0 0 = σ 0 0 + 1 := zup_0 (by omega)
      have g := ge _ _ _ _ h3
      rw [e0] at g
      have s1 := zsl_s w (n := σ 0 0) (by omega)
      rw [hk] at s1
      have s1 : zsl w (σ 0 0 + 1) = zsl w (σ 0 0) + x.toNat := s1
      have s2 := zsl_le w (n := σ 0 0 + 1) (m := r.2 0 0) (by omega) g
      obtain ⟨r1, r2, r3, r4⟩ := HR
      have hL := zK_len (w := w) (a := σ 0 0) (by omega)
      rw [hk] at hL
      have hx0 : 0 ≤ x := hL.1
      have hx1 : x ≤ 65536 := hL.2.1
      have hs2 := (zvoks_cons.mp hso).2
      have had : ∀ a : Int, a < σ 0 0 → zad1 ad (σ 0 0) H.size a = ad a := fun a q => zad1_n (by omega)
      have fin : ∀ (H1 : Heap) (cA : ClassId), zWo w D B0 (zad1 ad (σ 0 0) H.size) (zad1 ca (σ 0 0) cA) (zup σ 0 0 (σ 0 0 + 1)) s H1 → va_S (zA0 B0) s.heap H1 locs → H.size ≤ H1.size → W p l e R s m args below meth c H1 locs ((σ 0 0 - n0).toNat + 1) (zsl w (σ 0 0) - zsl w n0 + x.toNat) Q (F0 m (off + 2) lsC (.ref H.size :: st'.map (zcv ad v0))) := by
        intro H1 cA w1 s3 z1
        have k := zK_new (k := 1) K G0 e0 w1 s3 rfl had (v := zA cc x (σ 0 0)) ⟨hk, by omega, by rw [e0]; omega⟩ hs2 h3
        rw [ho] at k
        have k2 : W p l e R s m args below meth c H1 locs (σ 0 0 + (1 : Nat) - n0).toNat (zsl w (σ 0 0 + (1 : Nat)) - zsl w n0) Q (F0 m (off + 2) lsC (.ref (zad1 ad (σ 0 0) H.size (σ 0 0)) :: st'.map (zcv ad v0))) := k
        rw [zad1_s] at k2
        exact W.cs (by omega) (by show _ + x.toNat = zsl w (σ 0 0 + 1) - _; omega) k2
      rcases hcc with ⟨rfl, rfl⟩ | ⟨rfl, rfl⟩ | ⟨rfl, rfl⟩
      · exact zh_newa20 hx hb (hts _ (zin zw_arrI rfl)) hW hS (Nat.le_trans hB hS.1) hk hx0 hx1 (by omega) (by omega) hd fin
      · exact zh_newa21 hx hb (hts _ (zin zw_arrJ rfl)) hW hS (Nat.le_trans hB hS.1) hk hx0 hx1 (by omega) (by omega) hd fin
      · exact zh_newa22 hx hb (hts _ (zin zw_arrZ rfl)) hW hS (Nat.le_trans hB hS.1) hk hx0 hx1 (by omega) (by omega) hd fin
    unfold zaux at hax
    dsimp only at hax
    split at hax
    · exact main 20 rfl (Or.inl ⟨rfl, rfl⟩)
    · exact main 21 rfl (Or.inr (Or.inl ⟨rfl, rfl⟩))
    · exact main 22 rfl (Or.inr (Or.inr ⟨rfl, rfl⟩))
    · cases hax
theorem zans_cc : ∀ q ∈ zans, q.2.2 = 30 ∨ q.2.2 = 31 ∨ q.2.2 = 34 := by
  intro q hq
  have h : (zans.all fun q => decide (q.2.2 = 30 ∨ q.2.2 = 31 ∨ q.2.2 = 34)) = true := by decide +kernel
  exact of_decide_eq_true (List.all_eq_true.mp h q hq)
theorem zs_anewarray {idx : Nat} (C : zCx p s m args c b nL own D B0) (G : zGd meth ini w D B0 v0 ph s nL n0 ad0 ad ca σ H locs lsC ls st) (K : zKt0 p l e R s m args below meth c Q w D B0 v0 ph cd nL n0 ad0 r kn) (HR : zRm R w n0 d r) (ge : ∀ j ls st σ', kn j ls st σ' = some r → σ' 0 0 ≤ r.2 0 0) (hax : zaux cd y own ret ini (off, .anewarray idx, an, az) = true) (hd : decode b off = .ok (.anewarray idx, 3)) (ho : zoff cd (j + 1) = off + 3) (h : zstp zarR ph (zK w) (zR w) zrd zup zcp kn kc (fun x m => some (x, m)) none j ls st σ (.anewarray idx) an az = some r) : W p l e R s m args below meth c H locs (σ 0 0 - n0).toNat (zsl w (σ 0 0) - zsl w n0) Q (F0 m off lsC (st.map (zcv ad v0))) := by
  have C0 := C
  have G0 := G
  obtain ⟨hx, hb, hml, hown, hts, hK, hB⟩ := C
  obtain ⟨hP, hv, hini, ⟨hW, hO, hS, hF⟩, g5, g6, hl, hlo, hso, hlen⟩ := G
  have n1 : 1 ≤ σ 0 0 := hW.2.2.2.2.1
  have sl0 := zsl_le w (n := n0) (m := σ 0 0) (by omega) g5
  cases ph with
  | true => cases h
  | false =>
    unfold zaux at hax
    dsimp only at hax
    split at hax
    · rename_i e0 cc
      have hin := of_decide_eq_true hax
      obtain ⟨x, st', rfl, h2⟩ := zi1_some h
      obtain ⟨hk, h3⟩ := zite_some (show (if zK w (σ 0 0) = ((cc : Int), x) then kn (j + 1) ls (zA cc x (σ 0 0) :: st') (zup σ 0 0 (σ 0 0 + 1)) else none) = some r from h2)
      have e0 : zup σ 0 0 (σ 0 0 + 1) 0 0 = σ 0 0 + 1 := zup_0 (by omega)
      have g := ge _ _ _ _ h3
      rw [e0] at g
      have s1 := zsl_s w (n := σ 0 0) (by omega)
      rw [hk] at s1
      have s1 : zsl w (σ 0 0 + 1) = zsl w (σ 0 0) + x.toNat := s1
      have s2 := zsl_le w (n := σ 0 0 + 1) (m := r.2 0 0) (by omega) g
      obtain ⟨r1, r2, r3, r4⟩ := HR
      have hL := zK_len (w := w) (a := σ 0 0) (by omega)
      rw [hk] at hL
      have hx0 : 0 ≤ x := hL.1
      have hx1 : x ≤ 65536 := hL.2.1
      have hs2 := (zvoks_cons.mp hso).2
      have had : ∀ a : Int, a < σ 0 0 → zad1 ad (σ 0 0) H.size a = ad a := fun a q => zad1_n (by omega)
      refine zh_anewa (en := (own, idx, cc)) (zans_ok _ hin) (zans_cc _ hin) hx hb hts hW hS (Nat.le_trans hB hS.1) hown hk hx0 hx1 (by omega) (by omega) hd fun H1 cA w1 s3 z1 => ?_
      have k := zK_new (k := 1) K G0 e0 w1 s3 rfl had (v := zA cc x (σ 0 0)) ⟨hk, by omega, by rw [e0]; omega⟩ hs2 h3
      rw [ho] at k
      have k2 : W p l e R s m args below meth c H1 locs (σ 0 0 + (1 : Nat) - n0).toNat (zsl w (σ 0 0 + (1 : Nat)) - zsl w n0) Q (F0 m (off + 3) lsC (.ref (zad1 ad (σ 0 0) H.size (σ 0 0)) :: st'.map (zcv ad v0))) := k
      rw [zad1_s] at k2
      exact W.cs (by omega) (by show _ + x.toNat = zsl w (σ 0 0 + 1) - _; omega) k2
    · cases hax
theorem zsl_mna (w : zW) {n y : Int} (h : 0 ≤ n) : ∀ k : Nat, (∀ j : Nat, j < k → zK w (n + (j : Nat)) = (22, y)) → zsl w (n + (k : Nat)) = zsl w n + k * y.toNat
  | 0, _ => by rw [show n + ((0 : Nat) : Int) = n by omega]; omega
  | k + 1, hk => by
    have i := zsl_mna w h k (fun j q => hk j (by omega))
    rw [show n + ((k + 1 : Nat) : Int) = (n + k) + 1 by omega, zsl_s w (by omega), i, hk k (by omega)]
    show _ + y.toNat = _
    rw [Nat.succ_mul]
    omega
theorem zs_mna {idx n : Nat} (C : zCx p s m args c b nL own D B0) (G : zGd meth ini w D B0 v0 ph s nL n0 ad0 ad ca σ H locs lsC ls st) (K : zKt0 p l e R s m args below meth c Q w D B0 v0 ph cd nL n0 ad0 r kn) (HR : zRm R w n0 d r) (ge : ∀ j ls st σ', kn j ls st σ' = some r → σ' 0 0 ≤ r.2 0 0) (hax : zaux cd y own ret ini (off, .multianewarray idx n, an, az) = true) (hd : decode b off = .ok (.multianewarray idx n, 4)) (ho : zoff cd (j + 1) = off + 4) (h : zstp zarR ph (zK w) (zR w) zrd zup zcp kn kc (fun x m => some (x, m)) none j ls st σ (.multianewarray idx n) an az = some r) : W p l e R s m args below meth c H locs (σ 0 0 - n0).toNat (zsl w (σ 0 0) - zsl w n0) Q (F0 m off lsC (st.map (zcv ad v0))) := by
  have C0 := C
  have G0 := G
  obtain ⟨hx, hb, hml, hown, hts, hK, hB⟩ := C
  obtain ⟨hP, hv, hini, ⟨hW, hO, hS, hF⟩, g5, g6, hl, hlo, hso, hlen⟩ := G
  have n1 : 1 ≤ σ 0 0 := hW.2.2.2.2.1
  have sl0 := zsl_le w (n := n0) (m := σ 0 0) (by omega) g5
  cases ph with
  | true => cases h
  | false =>
    unfold zaux at hax
    dsimp only at hax
    split at hax
    · rename_i e0 cc
      obtain ⟨q1, q2, q3, q4⟩ := of_decide_eq_true hax
      subst q1; subst q2; subst q3
      obtain ⟨x, yy, st', rfl, h2⟩ := zi2_some h
      obtain ⟨⟨hk, hall⟩, h3⟩ := zite_some (show (if zK w (σ 0 0) = ((cc : Int), x) ∧ (List.range x.toNat).all (fun j => decide (zK w (σ 0 0 + 1 + (j : Nat)) = (22, yy)) && (cc == 33 || decide (zR w (σ 0 0) (j : Nat) = σ 0 0 + 1 + (j : Nat)))) = true then
        kn (j + 1) ls (zA cc x (σ 0 0) :: st') (zup (zfill zup σ (σ 0 0) (fun j => if cc = 33 then σ 0 0 + 1 + j else 1) x.toNat) 0 0 (σ 0 0 + 1 + x)) else none) = some r from h2)
      have ecc : (fun j : Int => if cc = 33 then σ 0 0 + 1 + j else (1 : Int)) = fun j => if (cc : Int) = 33 then σ 0 0 + 1 + j else 1 := funext fun j => by
        by_cases q : cc = 33
        · rw [if_pos q, if_pos (by omega)]
        · rw [if_neg q, if_neg (by omega)]
      rw [ecc] at h3
      have hki : ∀ j : Nat, j < x.toNat → zK w (σ 0 0 + 1 + (j : Nat)) = (22, yy) ∧ ((cc : Int) = 33 ∨ zR w (σ 0 0) (j : Nat) = σ 0 0 + 1 + (j : Nat)) := by
        intro i hi
        have := List.all_eq_true.mp hall i (List.mem_range.mpr hi)
        simp only [Bool.and_eq_true, Bool.or_eq_true, decide_eq_true_eq] at this
        exact ⟨this.1, this.2.imp (fun q => by have := eq_of_beq q; omega) id⟩
      have hcc : (cc : Int) = 32 ∨ (cc : Int) = 33 := by omega
      have hL := zK_len (w := w) (a := σ 0 0) (by omega)
      rw [hk] at hL
      have hx0 : 0 < x := hL.2.2.1 hcc
      have ef : zfill zup σ (σ 0 0) (fun j => if (cc : Int) = 33 then σ 0 0 + 1 + j else 1) x.toNat 0 0 = σ 0 0 := by
        rw [zfill_at _ _ _ _ _ _ (by omega), if_neg (by omega)]
      have e0 : zup (zfill zup σ (σ 0 0) (fun j => if (cc : Int) = 33 then σ 0 0 + 1 + j else 1) x.toNat) 0 0 (σ 0 0 + 1 + x) 0 0 = σ 0 0 + ((1 + x.toNat : Nat) : Int) := by
        rw [zup_0 (by rw [ef]; omega)]
        omega
      have g := ge _ _ _ _ h3
      rw [e0] at g
      have s1 := zsl_s w (n := σ 0 0) (by omega)
      rw [hk] at s1
      have s1 : zsl w (σ 0 0 + 1) = zsl w (σ 0 0) + x.toNat := s1
      have s4 := zsl_mna w (n := σ 0 0 + 1) (y := yy) (by omega) x.toNat (fun j q => (hki j q).1)
      rw [show σ 0 0 + 1 + ((x.toNat : Nat) : Int) = σ 0 0 + ((1 + x.toNat : Nat) : Int) by omega] at s4
      have s2 := zsl_le w (n := σ 0 0 + ((1 + x.toNat : Nat) : Int)) (m := r.2 0 0) (by omega) g
      obtain ⟨r1, r2, r3, r4⟩ := HR
      have hs2 := (zvoks_cons.mp (zvoks_cons.mp hso).2).2
      refine zh_mna hcc hx hb hts hW hS (Nat.le_trans hB hS.1) hown hk hki (by omega) (by omega) hd fun H1 ad1 ca1 had had0 w1 s3 z1 => ?_
      have k := zK_new (k := 1 + x.toNat) K G0 e0 w1 s3 rfl had (v := zA cc x (σ 0 0)) ⟨hk, by omega, by rw [e0]; omega⟩ hs2 h3
      rw [ho] at k
      have k2 : W p l e R s m args below meth c H1 locs (σ 0 0 + ((1 + x.toNat : Nat) : Int) - n0).toNat (zsl w (σ 0 0 + ((1 + x.toNat : Nat) : Int)) - zsl w n0) Q (F0 m (off + 4) lsC (.ref (ad1 (σ 0 0)) :: st'.map (zcv ad v0))) := k
      rw [had0] at k2
      exact W.cs (by omega) (by omega) k2
    · cases hax
/-- behind a call, the machine goes on -/
theorem zs_back {k : Nat} {c2 n2 : Int} {t2 : List zV} {r' : Int × zMem} {a : Array Value} (C : zCx p s m args c b nL own D B0) (G : zGd meth ini w D B0 v0 ph s nL n0 ad0 ad ca σ H locs lsC ls st) (K : zKt0 p l e R s m args below meth c Q w D B0 v0 ph cd nL n0 ad0 r kn) (hg : σ 0 0 ≤ r'.2 0 0) (ho : zoff cd (j + 1) = off + 3)
    (hr : va_Run p l e R s m args below meth c H locs (σ 0 0 - n0).toNat (zsl w (σ 0 0) - zsl w n0) (r'.2 0 0 - σ 0 0).toNat (zsl w (r'.2 0 0) - zsl w (σ 0 0)) (F0 m off lsC (st.map (zcv ad v0))) (t2.map (zcv ad v0)) (zQc w D B0 ph k c2 n2 (σ 0 0) ad r' a) (zA0 B0)) (ht2 : zvoks w (σ 0 0) t2)
    (h : kn (j + 1) ls (zpush k c2 n2 r'.1 t2) r'.2 = some r) : W p l e R s m args below meth c H locs (σ 0 0 - n0).toNat (zsl w (σ 0 0) - zsl w n0) Q (F0 m off lsC (st.map (zcv ad v0))) := by
  have n1 : 1 ≤ σ 0 0 := G.2.2.2.1.1.2.2.2.2.1
  obtain ⟨hP, hv, hini, hD, g5, g6, hl, hlo, hso, hlen⟩ := G
  have sl0 := zsl_le w (n := n0) (m := σ 0 0) (by omega) g5
  have sl1 := zsl_le w (n := σ 0 0) (m := r'.2 0 0) (by omega) hg
  refine zafter hr hD fun ad' ca' H' locs' had hD' hpv => ?_
  rw [zpush_app] at h
  have k := K _ _ _ _ ad' ca' H' locs' lsC h hD' (fun a q => (had a (by omega)).trans (g6.2 a q)) (by omega) (by rw [zlv_ad had 0 hlo]; exact hl) (zvoks_up hg hlo) (fun v q => (List.mem_append.mp q).elim (hpv v) (zvoks_up hg ht2 v)) hlen
  rw [ho, List.map_append, zmap_ad had ht2] at k
  exact W.cs (by omega) (by omega) k
theorem zlen_take {α : Type} {l : List α} {n : Nat} (h : n ≤ l.length) : (l.take n).reverse.length = n := by
  rw [List.length_reverse, List.length_take]; omega
theorem zs_static {idx e0 y' n k : Nat} {c2 n2 : Int} (C : zCx p s m args c b nL own D B0) (G : zGd meth ini w D B0 v0 ph s nL n0 ad0 ad ca σ H locs lsC ls st) (K : zKt0 p l e R s m args below meth c Q w D B0 v0 ph cd nL n0 ad0 r kn) (HR : zRm R w n0 d r) (ge : ∀ j ls st σ', kn j ls st σ' = some r → σ' 0 0 ≤ r.2 0 0) (KC : ∀ y' as σ' k c2 n2 pc' ls' st', kc y' as σ' k c2 n2 pc' ls' st' = some r → ∃ d' r', d = d' + 1 ∧ zMet l w D B0 v0 ph d' y' as σ' r' ∧ (zspread as).length ≤ zml y' ∧ σ' 0 0 ≤ r'.2 0 0 ∧ kn pc' ls' (zpush k c2 n2 r'.1 st') r'.2 = some r) (hent : zentOK own idx true [e0, y', n, k] [c2, n2] = true) (hd : decode b off = .ok (.invokestatic idx, 3)) (ho : zoff cd (j + 1) = off + 3) (h : zinvoke kc none [e0, y', n, k] [c2, n2] j ls st σ = some r) : W p l e R s m args below meth c H locs (σ 0 0 - n0).toNat (zsl w (σ 0 0) - zsl w n0) Q (F0 m off lsC (st.map (zcv ad v0))) := by
  have C0 := C
  have G0 := G
  obtain ⟨hx, hb, hml, hown, hts, hK, hB⟩ := C
  obtain ⟨hP, hv, hini, ⟨hW, hO, hS, hF⟩, g5, g6, hl, hlo, hso, hlen⟩ := G
  obtain ⟨⟨hcat, hlen2⟩, h2⟩ := zite_some (show (if zcats (st.drop n) ≤ 8 ∧ n ≤ st.length then kc y' (st.take n).reverse σ k c2 n2 (j + 1) ls (st.drop n) else none) = some r from h)
  obtain ⟨d', r', rfl, hM, hfit, hg, h3⟩ := KC _ _ _ _ _ _ _ _ _ h2
  obtain ⟨md, host, hmd, hst, hn, hk, htg, hlk, -⟩ := zent_spec hent
  have htg2 := zrtP_eq (az := []) htg
  have g2 := ge _ _ _ _ h3
  have n1 : 1 ≤ σ 0 0 := hW.2.2.2.2.1
  have sl0 := zsl_le w (n := n0) (m := σ 0 0) (by omega) g5
  have sl1 := zsl_le w (n := σ 0 0) (m := r'.2 0 0) (by omega) hg
  have sl2 := zsl_le w (n := r'.2 0 0) (m := r.2 0 0) (by omega) g2
  obtain ⟨r1, r2, r3, r4⟩ := HR
  have hvo : zvoks w (σ 0 0) (st.take n).reverse := fun v q => hso v (List.mem_of_mem_take (List.mem_reverse.mp q))
  have ht2 : zvoks w (σ 0 0) (st.drop n) := fun v q => hso v (List.mem_of_mem_drop q)
  have hr := zh_callS (p := p) (l := l) (e := e) (meth := meth) (below := below) (as := (st.take n).reverse) (t2 := st.drop n) (idx := idx) (off := off) (lsC := lsC) (cells := (σ 0 0 - n0).toNat) (slots := zsl w (σ 0 0) - zsl w n0) C0 ⟨hW, hO, hS, hF⟩ hv hl.1 hmd hst hM hvo hfit (by rw [zlen_take hlen2, hn]; simp) hlk hcat (by omega) (by omega) (by omega) (by omega) hd
  rw [List.reverse_reverse, List.take_append_drop, htg2, ← hk] at hr
  exact zs_back C0 G0 K hg ho hr ht2 h3
theorem znth_split {l : List zV} {n : Nat} {v : zV} (h : znth l n = some v) : l = l.take n ++ v :: l.drop (n + 1) := by
  induction l generalizing n with
  | nil => cases h
  | cons a l ih =>
    cases n with
    | zero => cases h; rfl
    | succ n => rw [List.take_succ_cons, List.drop_succ_cons, List.cons_append, ← ih h]
theorem ztake_split {l : List zV} {n : Nat} {v : zV} (h : znth l n = some v) : l.take (n + 1) = l.take n ++ [v] := by
  induction l generalizing n with
  | nil => cases h
  | cons a l ih =>
    cases n with
    | zero => cases h; rfl
    | succ n => rw [List.take_succ_cons, List.take_succ_cons, List.cons_append, ← ih h]
theorem zmd_oc_all : ((List.range 352).all fun y => match znth zmd y with
    | some q => q.2.2.2.2.1 || (Nat.blt 0 q.2.2.2.2.2.2 && Nat.ble q.2.2.2.2.2.2 13) || Nat.beq q.2.2.2.2.2.2 17
    | none => false) = true := by decide +kernel
theorem zmd_oc {y : Nat} {md : zMd} (h : znth zmd y = some md) (hst : md.2.2.2.2.1 = false) : (0 < md.2.2.2.2.2.2 ∧ md.2.2.2.2.2.2 ≤ 13) ∨ md.2.2.2.2.2.2 = 17 := by
  have hl : y < 352 := by have := znth_len h; rwa [zmd_len] at this
  have h1 := List.all_eq_true.mp zmd_oc_all y (List.mem_range.mpr hl)
  rw [h] at h1
  simp only [Bool.or_eq_true, Bool.and_eq_true] at h1
  rcases h1 with (h1 | h1) | h1
  · rw [hst] at h1; cases h1
  · exact Or.inl ⟨Nat.le_of_ble_eq_true h1.1, Nat.le_of_ble_eq_true h1.2⟩
  · exact Or.inr (Nat.eq_of_beq_eq_true h1)
theorem zs_inst {idx e0 y' n k : Nat} {c2 n2 cr : Int} {i : Jvm.ClassFile.Instr} (C : zCx p s m args c b nL own D B0) (G : zGd meth ini w D B0 v0 ph s nL n0 ad0 ad ca σ H locs lsC ls st) (K : zKt0 p l e R s m args below meth c Q w D B0 v0 ph cd nL n0 ad0 r kn) (HR : zRm R w n0 d r) (ge : ∀ j ls st σ', kn j ls st σ' = some r → σ' 0 0 ≤ r.2 0 0) (KC : ∀ y' as σ' k c2 n2 pc' ls' st', kc y' as σ' k c2 n2 pc' ls' st' = some r → ∃ d' r', d = d' + 1 ∧ zMet l w D B0 v0 ph d' y' as σ' r' ∧ (zspread as).length ≤ zml y' ∧ σ' 0 0 ≤ r'.2 0 0 ∧ kn pc' ls' (zpush k c2 n2 r'.1 st') r'.2 = some r) (hent : zentOK own idx false [e0, y', n, k] [c2, n2, cr] = true) (hkind : i = .invokevirtual idx ∧ zselOK y' ∨ i = .invokespecial idx ∧ y' ∈ zinits) (hd : decode b off = .ok (i, 3)) (ho : zoff cd (j + 1) = off + 3) (h : zrecv none cr n st (zinvoke kc none [e0, y', n, k] [c2, n2] j ls st σ) = some r) : W p l e R s m args below meth c H locs (σ 0 0 - n0).toNat (zsl w (σ 0 0) - zsl w n0) Q (F0 m off lsC (st.map (zcv ad v0))) := by
  have C0 := C
  have G0 := G
  obtain ⟨hx, hb, hml, hown, hts, hK, hB⟩ := C
  obtain ⟨hP, hv, hini, ⟨hW, hO, hS, hF⟩, g5, g6, hl, hlo, hso, hlen⟩ := G
  have hrv : ∃ tn ra, znth st (n - 1) = some (zA cr tn ra) ∧ zinvoke kc none [e0, y', n, k] [c2, n2] j ls st σ = some r := by
    unfold zrecv at h
    split at h
    · rename_i c' tn ra hz
      obtain ⟨rfl, h2⟩ := zite_some h
      exact ⟨tn, ra, hz, h2⟩
    · cases h
  obtain ⟨tn, ra, hz, h⟩ := hrv
  obtain ⟨⟨hcat, hlen2⟩, h2⟩ := zite_some (show (if zcats (st.drop n) ≤ 8 ∧ n ≤ st.length then kc y' (st.take n).reverse σ k c2 n2 (j + 1) ls (st.drop n) else none) = some r from h)
  obtain ⟨d', r', rfl, hM, hfit, hg, h3⟩ := KC _ _ _ _ _ _ _ _ _ h2
  obtain ⟨md, host, hmd, hst, hn, hk, htg, hlk, hdr⟩ := zent_spec hent
  have htg2 := zrtP_eq (az := [cr]) htg
  have hdr2 : cr = if md.2.2.2.2.2.2 = 17 then 40 else (md.2.2.2.2.2.2 : Int) := by
    have := hdr rfl
    simpa using this
  have g2 := ge _ _ _ _ h3
  have n1 : 1 ≤ σ 0 0 := hW.2.2.2.2.1
  have sl0 := zsl_le w (n := n0) (m := σ 0 0) (by omega) g5
  have sl1 := zsl_le w (n := σ 0 0) (m := r'.2 0 0) (by omega) hg
  have sl2 := zsl_le w (n := r'.2 0 0) (m := r.2 0 0) (by omega) g2
  obtain ⟨r1, r2, r3, r4⟩ := HR
  have hn0 : 0 < n := by rw [hn]; simp
  have hsp := znth_split hz
  rw [show n - 1 + 1 = n by omega] at hsp
  have htk : (st.take n).reverse = zA cr tn ra :: (st.take (n - 1)).reverse := by
    have e1 := ztake_split hz
    rw [show n - 1 + 1 = n by omega] at e1
    rw [e1, List.reverse_append]
    rfl
  rw [htk] at hM hfit
  have hvo : zvoks w (σ 0 0) (zA cr tn ra :: (st.take (n - 1)).reverse) := by
    rw [← htk]
    exact fun v q => hso v (List.mem_of_mem_take (List.mem_reverse.mp q))
  have ht2 : zvoks w (σ 0 0) (st.drop n) := fun v q => hso v (List.mem_of_mem_drop q)
  have hnl : (st.take (n - 1)).reverse.length = md.2.2.2.2.2.1 := by
    rw [zlen_take (by omega), hn]
    simp
  rcases hkind with ⟨rfl, hy⟩ | ⟨rfl, hy⟩
  · have ho2 : (0 < md.2.2.2.2.2.2 ∧ md.2.2.2.2.2.2 ≤ 13) ∨ md.2.2.2.2.2.2 = 17 := zmd_oc hmd hst
    have hr := zh_callV (p := p) (l := l) (e := e) (meth := meth) (below := below) (as := (st.take (n - 1)).reverse) (t2 := st.drop n) (idx := idx) (off := off) (lsC := lsC) (cells := (σ 0 0 - n0).toNat) (slots := zsl w (σ 0 0) - zsl w n0) C0 ⟨hW, hO, hS, hF⟩ hv hl.1 hmd hst (hy md hmd) hM hvo hfit hdr2 ho2 hnl hlk hcat (by omega) (by omega) (by omega) (by omega) hd
    rw [List.reverse_reverse, ← hsp, htg2, ← hk] at hr
    exact zs_back C0 G0 K hg ho hr ht2 h3
  · obtain ⟨hy1, hy2, hy3⟩ := zinits_ok _ hy _ hmd
    have hr := zh_callI (p := p) (l := l) (e := e) (meth := meth) (below := below) (as := (st.take (n - 1)).reverse) (t2 := st.drop n) (idx := idx) (off := off) (lsC := lsC) (cells := (σ 0 0 - n0).toNat) (slots := zsl w (σ 0 0) - zsl w n0) C0 ⟨hW, hO, hS, hF⟩ hv hl.1 hmd hst hy1 hy2 hM hvo hfit hnl hlk hcat (by omega) (by omega) (by omega) (by omega) hd
    rw [List.reverse_reverse, ← hsp, htg2, ← hk] at hr
    exact zs_back C0 G0 K hg ho hr ht2 h3
end
