/-! One instruction: all together -/
section
variable {p : Program} {l : Launch} {e : Env} {R : Room} {s : State} {m : MethodId} {args : Array Value} {below : List Frame} {meth : Method} {c : Code} {H : Heap} {locs : List Loc} {Q : State → Prop}
variable {w : zW} {D : va_G} {B0 : Nat} {v0 : Value} {ph ini : Bool} {ad0 ad : Int → Nat} {ca : Int → ClassId} {σ : zMem} {cd : List zQ} {nL j d y own off : Nat} {n0 : Int} {b : ByteArray} {lsC : Array Slot} {ls st : List zV} {r : Int × zMem} {ret : Option FieldType}
variable {kn : Nat → List zV → List zV → zMem → Option (Int × zMem)} {kc : zKC zMem (Option (Int × zMem))} {an : List Nat} {az : List Int}

set_option maxRecDepth 100000 in
theorem zw_oi : Jvm.Cond.instanceMethod Lib.objectInit ∈ lw_tbl := zsub_1 (List.mem_of_getElem? (i := 27) rfl)
set_option maxRecDepth 100000 in
theorem zw_oc : Jvm.Cond.code Lib.objectInit ⟨#[0xb1]⟩ 1 none ∈ lw_tbl := zsub_1 (List.mem_of_getElem? (i := 28) rfl)
theorem zs_objinit {idx : Nat} (C : zCx p s m args c b nL own D B0) (G : zGd meth ini w D B0 v0 ph s nL n0 ad0 ad ca σ H locs lsC ls st) (K : zKt0 p l e R s m args below meth c Q w D B0 v0 ph cd nL n0 ad0 r kn) (HR : zRm R w n0 d r) (hin : (own, idx) ∈ zobjs) (hd : decode b off = .ok (.invokespecial idx, 3)) (ho : zoff cd (j + 1) = off + 3) (h : zr1 none st (fun _ _ _ st => if zcats st ≤ 8 then kn (j + 1) ls st σ else none) = some r) : W p l e R s m args below meth c H locs (σ 0 0 - n0).toNat (zsl w (σ 0 0) - zsl w n0) Q (F0 m off lsC (st.map (zcv ad v0))) := by
  have C0 := C
  have G0 := G
  obtain ⟨hx, hb, hml, hown, hts, hK, hB⟩ := C
  obtain ⟨hP, hv, hini, ⟨hW, hO, hS, hF⟩, g5, g6, hl, hlo, hso, hlen⟩ := G
  obtain ⟨cc, n, a, st', rfl, h2⟩ := zr1_some h
  obtain ⟨hc8, h3⟩ := zite_some h2
  obtain ⟨r1, r2, r3, r4⟩ := HR
  have hob : zobjOK (own, idx) := zobjs_ok _ hin
  refine W.objInit hx hb hown (hts _ (zin hob rfl)) (hts _ (zin zw_oi rfl)) (hts _ (zin zw_oc rfl)) (g := F0 m off lsC ((zA cc n a :: st').map (zcv ad v0))) (a := ad a) (rest := st'.map (zcv ad v0)) rfl (hl.1.trans hml.symm) rfl hd (by omega) ?_ ?_
  · rw [zcats_sum hv]
    show 2 * 0 + zcats st' + 12 ≤ R.locals
    omega
  · have k := zNX_of K G0 _ _ _ _ h3 hl hlo (zvoks_cons.mp hso).2 hlen
    rw [ho] at k
    exact k
theorem znative : nativeFrameWords "java/lang/System" "arraycopy" 5 + 11 ≤ 40 := by decide +kernel
theorem zFl_cpy {a bb sp dp n : Int} (h : zFl w σ) (hbb : 0 < bb) (hty : ∀ k, zty w bb k ≠ 3) : zFl w (zfc σ a sp bb dp n) := by
  intro a' k' g1 g2 g3 g4 g5
  have e0 : zfc σ a sp bb dp n 0 0 = σ 0 0 := by unfold zfc; rw [if_neg (by omega)]
  rw [e0] at g2
  by_cases e : a' = bb
  · subst e; exact absurd g5 (hty k')
  · unfold zfc
    rw [if_neg (fun q => e q.2.1)]
    exact h a' k' g1 g2 g3 g4 g5
theorem zs_cpy {idx : Nat} {n dp sp c1 n1 a c2 n2 bb : Int} {st' : List zV} (C : zCx p s m args c b nL own D B0) (G : zGd meth ini w D B0 v0 ph s nL n0 ad0 ad ca σ H locs lsC ls st) (K : zKt0 p l e R s m args below meth c Q w D B0 v0 ph cd nL n0 ad0 r kn) (HR : zRm R w n0 d r) (hst : st = zI n :: zI dp :: zA c2 n2 bb :: zI sp :: zA c1 n1 a :: st') (hin : (own, idx) ∈ zcpys) (hd : decode b off = .ok (.invokestatic idx, 3)) (ho : zoff cd (j + 1) = off + 3) (hc : c1 = c2 ∧ (c1 = 20 ∨ c1 = 21) ∧ 0 ≤ n ∧ 0 ≤ sp ∧ 0 ≤ dp ∧ sp + n ≤ n1 ∧ dp + n ≤ n2 ∧ zcats st' ≤ 8) (h : kn (j + 1) ls st' (zfc σ a sp bb dp n) = some r) : W p l e R s m args below meth c H locs (σ 0 0 - n0).toNat (zsl w (σ 0 0) - zsl w n0) Q (F0 m off lsC (st.map (zcv ad v0))) := by
  subst hst
  have C0 := C
  have G0 := G
  obtain ⟨hx, hb, hml, hown, hts, hK, hB⟩ := C
  obtain ⟨hP, hv, hini, ⟨hW, hO, hS, hF⟩, g5, g6, hl, hlo, hso, hlen⟩ := G
  obtain ⟨e1, hcc, h1, h2, h3, h4, h5, h6⟩ := hc
  subst e1
  obtain ⟨r1, r2, r3, r4⟩ := HR
  have q1 := zvoks_cons.mp hso
  have q2 := zvoks_cons.mp q1.2
  have q3 := zvoks_cons.mp q2.2
  have q4 := zvoks_cons.mp q3.2
  have q5 := zvoks_cons.mp q4.2
  obtain ⟨k1, k2, k3⟩ := q3.1
  obtain ⟨m1, m2, m3⟩ := q5.1
  have hka : (zK w a).1 = c1 := by rw [m1]
  have hkb : (zK w bb).1 = c1 := by rw [k1]
  have ha : 0 < a := zpos (w := w) m2 (by omega) (by omega) (by omega) (by omega)
  have hbb : 0 < bb := zpos (w := w) k2 (by omega) (by omega) (by omega) (by omega)
  have hzn := znative
  refine zh_cpy (q := (own, idx)) (zcpys_ok _ hin) hx hb (hml.trans hl.1.symm) hts hW hS hown hcc ha m3 m1 hbb k3 k1 (hW.1 bb hbb k3).2.1 q4.1 q2.1 q1.1 h1 h2 h3 h4 h5 (by omega) ?_ hd fun H1 locs1 w1 s1 => ?_
  · rw [zcats_sum hv]
    omega
  · have e0 : zfc σ a sp bb dp n 0 0 = σ 0 0 := by unfold zfc; rw [if_neg (by omega)]
    have k := zK_put K G0 e0 w1 s1 (fun q => zFl_cpy (hF q) hbb (fun k => by rcases hcc with rfl | rfl <;> first | (rw [zty20 k1]; decide) | (rw [zty21 k1]; decide))) q5.2 h
    rw [ho] at k
    exact k
set_option maxRecDepth 100000 in
theorem zz_iadd  (Hd : Nat.beq (zfalls (.iadd)) 2 = false → decode b off = .ok ((.iadd), zlenf (.iadd))) (Ho : zfalls (.iadd) = 0 → zoff cd (j + 1) = off + zlenf (.iadd)) {len : Nat} (hd0 : decode b off = .ok ((.iadd), len)) (hax : zaux cd y own ret ini (off, (.iadd), an, az) = true) (hxt : zxtra (off, (.iadd), an, az) = true) (h : zstp zarR ph (zK w) (zR w) zrd zup zcp kn kc (fun x m => some (x, m)) none j ls st σ ((.iadd)) an az = some r) (C : zCx p s m args c b nL own D B0) (G : zGd meth ini w D B0 v0 ph s nL n0 ad0 ad ca σ H locs lsC ls st) (K : zKt0 p l e R s m args below meth c Q w D B0 v0 ph cd nL n0 ad0 r kn) (HR : zRm R w n0 d r) (ge : ∀ j ls st σ', kn j ls st σ' = some r → σ' 0 0 ≤ r.2 0 0) (KC : ∀ y' as σ' k c2 n2 pc' ls' st', kc y' as σ' k c2 n2 pc' ls' st' = some r → ∃ d' r', d = d' + 1 ∧ zMet l w D B0 v0 ph d' y' as σ' r' ∧ (zspread as).length ≤ zml y' ∧ σ' 0 0 ≤ r'.2 0 0 ∧ kn pc' ls' (zpush k c2 n2 r'.1 st') r'.2 = some r) (RT : r.2 = σ → decode b off = .ok (zrins (zkindOf ret), 1) → zvoks w (σ 0 0) (zpush (zkindOf ret) (zrtP y).1 (zrtP y).2 r.1 []) → zrng (zkindOf ret) r.1 → W p l e R s m args below meth c H locs (σ 0 0 - n0).toNat (zsl w (σ 0 0) - zsl w n0) Q (F0 m off lsC ((zpush (zkindOf ret) (zrtP y).1 (zrtP y).2 r.1 []).map (zcv ad v0)))) : W p l e R s m args below meth c H locs (σ 0 0 - n0).toNat (zsl w (σ 0 0) - zsl w n0) Q (F0 m off lsC (st.map (zcv ad v0))) := by
  have S := zST_of C G
  have N := zNX_of K G
  have hv := G.2.1
  have hlen := G.2.2.2.2.2.2.2.2.2
  have hd := Hd
  have ho := Ho
  exact zp_iadd S N (hd rfl) (ho rfl) h
set_option maxRecDepth 100000 in
theorem zz_isub  (Hd : Nat.beq (zfalls (.isub)) 2 = false → decode b off = .ok ((.isub), zlenf (.isub))) (Ho : zfalls (.isub) = 0 → zoff cd (j + 1) = off + zlenf (.isub)) {len : Nat} (hd0 : decode b off = .ok ((.isub), len)) (hax : zaux cd y own ret ini (off, (.isub), an, az) = true) (hxt : zxtra (off, (.isub), an, az) = true) (h : zstp zarR ph (zK w) (zR w) zrd zup zcp kn kc (fun x m => some (x, m)) none j ls st σ ((.isub)) an az = some r) (C : zCx p s m args c b nL own D B0) (G : zGd meth ini w D B0 v0 ph s nL n0 ad0 ad ca σ H locs lsC ls st) (K : zKt0 p l e R s m args below meth c Q w D B0 v0 ph cd nL n0 ad0 r kn) (HR : zRm R w n0 d r) (ge : ∀ j ls st σ', kn j ls st σ' = some r → σ' 0 0 ≤ r.2 0 0) (KC : ∀ y' as σ' k c2 n2 pc' ls' st', kc y' as σ' k c2 n2 pc' ls' st' = some r → ∃ d' r', d = d' + 1 ∧ zMet l w D B0 v0 ph d' y' as σ' r' ∧ (zspread as).length ≤ zml y' ∧ σ' 0 0 ≤ r'.2 0 0 ∧ kn pc' ls' (zpush k c2 n2 r'.1 st') r'.2 = some r) (RT : r.2 = σ → decode b off = .ok (zrins (zkindOf ret), 1) → zvoks w (σ 0 0) (zpush (zkindOf ret) (zrtP y).1 (zrtP y).2 r.1 []) → zrng (zkindOf ret) r.1 → W p l e R s m args below meth c H locs (σ 0 0 - n0).toNat (zsl w (σ 0 0) - zsl w n0) Q (F0 m off lsC ((zpush (zkindOf ret) (zrtP y).1 (zrtP y).2 r.1 []).map (zcv ad v0)))) : W p l e R s m args below meth c H locs (σ 0 0 - n0).toNat (zsl w (σ 0 0) - zsl w n0) Q (F0 m off lsC (st.map (zcv ad v0))) := by
  have S := zST_of C G
  have N := zNX_of K G
  have hv := G.2.1
  have hlen := G.2.2.2.2.2.2.2.2.2
  have hd := Hd
  have ho := Ho
  exact zp_isub S N (hd rfl) (ho rfl) h
set_option maxRecDepth 100000 in
theorem zz_imul  (Hd : Nat.beq (zfalls (.imul)) 2 = false → decode b off = .ok ((.imul), zlenf (.imul))) (Ho : zfalls (.imul) = 0 → zoff cd (j + 1) = off + zlenf (.imul)) {len : Nat} (hd0 : decode b off = .ok ((.imul), len)) (hax : zaux cd y own ret ini (off, (.imul), an, az) = true) (hxt : zxtra (off, (.imul), an, az) = true) (h : zstp zarR ph (zK w) (zR w) zrd zup zcp kn kc (fun x m => some (x, m)) none j ls st σ ((.imul)) an az = some r) (C : zCx p s m args c b nL own D B0) (G : zGd meth ini w D B0 v0 ph s nL n0 ad0 ad ca σ H locs lsC ls st) (K : zKt0 p l e R s m args below meth c Q w D B0 v0 ph cd nL n0 ad0 r kn) (HR : zRm R w n0 d r) (ge : ∀ j ls st σ', kn j ls st σ' = some r → σ' 0 0 ≤ r.2 0 0) (KC : ∀ y' as σ' k c2 n2 pc' ls' st', kc y' as σ' k c2 n2 pc' ls' st' = some r → ∃ d' r', d = d' + 1 ∧ zMet l w D B0 v0 ph d' y' as σ' r' ∧ (zspread as).length ≤ zml y' ∧ σ' 0 0 ≤ r'.2 0 0 ∧ kn pc' ls' (zpush k c2 n2 r'.1 st') r'.2 = some r) (RT : r.2 = σ → decode b off = .ok (zrins (zkindOf ret), 1) → zvoks w (σ 0 0) (zpush (zkindOf ret) (zrtP y).1 (zrtP y).2 r.1 []) → zrng (zkindOf ret) r.1 → W p l e R s m args below meth c H locs (σ 0 0 - n0).toNat (zsl w (σ 0 0) - zsl w n0) Q (F0 m off lsC ((zpush (zkindOf ret) (zrtP y).1 (zrtP y).2 r.1 []).map (zcv ad v0)))) : W p l e R s m args below meth c H locs (σ 0 0 - n0).toNat (zsl w (σ 0 0) - zsl w n0) Q (F0 m off lsC (st.map (zcv ad v0))) := by
  have S := zST_of C G
  have N := zNX_of K G
  have hv := G.2.1
  have hlen := G.2.2.2.2.2.2.2.2.2
  have hd := Hd
  have ho := Ho
  exact zp_imul S N (hd rfl) (ho rfl) h
set_option maxRecDepth 100000 in
theorem zz_idiv  (Hd : Nat.beq (zfalls (.idiv)) 2 = false → decode b off = .ok ((.idiv), zlenf (.idiv))) (Ho : zfalls (.idiv) = 0 → zoff cd (j + 1) = off + zlenf (.idiv)) {len : Nat} (hd0 : decode b off = .ok ((.idiv), len)) (hax : zaux cd y own ret ini (off, (.idiv), an, az) = true) (hxt : zxtra (off, (.idiv), an, az) = true) (h : zstp zarR ph (zK w) (zR w) zrd zup zcp kn kc (fun x m => some (x, m)) none j ls st σ ((.idiv)) an az = some r) (C : zCx p s m args c b nL own D B0) (G : zGd meth ini w D B0 v0 ph s nL n0 ad0 ad ca σ H locs lsC ls st) (K : zKt0 p l e R s m args below meth c Q w D B0 v0 ph cd nL n0 ad0 r kn) (HR : zRm R w n0 d r) (ge : ∀ j ls st σ', kn j ls st σ' = some r → σ' 0 0 ≤ r.2 0 0) (KC : ∀ y' as σ' k c2 n2 pc' ls' st', kc y' as σ' k c2 n2 pc' ls' st' = some r → ∃ d' r', d = d' + 1 ∧ zMet l w D B0 v0 ph d' y' as σ' r' ∧ (zspread as).length ≤ zml y' ∧ σ' 0 0 ≤ r'.2 0 0 ∧ kn pc' ls' (zpush k c2 n2 r'.1 st') r'.2 = some r) (RT : r.2 = σ → decode b off = .ok (zrins (zkindOf ret), 1) → zvoks w (σ 0 0) (zpush (zkindOf ret) (zrtP y).1 (zrtP y).2 r.1 []) → zrng (zkindOf ret) r.1 → W p l e R s m args below meth c H locs (σ 0 0 - n0).toNat (zsl w (σ 0 0) - zsl w n0) Q (F0 m off lsC ((zpush (zkindOf ret) (zrtP y).1 (zrtP y).2 r.1 []).map (zcv ad v0)))) : W p l e R s m args below meth c H locs (σ 0 0 - n0).toNat (zsl w (σ 0 0) - zsl w n0) Q (F0 m off lsC (st.map (zcv ad v0))) := by
  have S := zST_of C G
  have N := zNX_of K G
  have hv := G.2.1
  have hlen := G.2.2.2.2.2.2.2.2.2
  have hd := Hd
  have ho := Ho
  exact zp_idiv S N (hd rfl) (ho rfl) h
set_option maxRecDepth 100000 in
theorem zz_irem  (Hd : Nat.beq (zfalls (.irem)) 2 = false → decode b off = .ok ((.irem), zlenf (.irem))) (Ho : zfalls (.irem) = 0 → zoff cd (j + 1) = off + zlenf (.irem)) {len : Nat} (hd0 : decode b off = .ok ((.irem), len)) (hax : zaux cd y own ret ini (off, (.irem), an, az) = true) (hxt : zxtra (off, (.irem), an, az) = true) (h : zstp zarR ph (zK w) (zR w) zrd zup zcp kn kc (fun x m => some (x, m)) none j ls st σ ((.irem)) an az = some r) (C : zCx p s m args c b nL own D B0) (G : zGd meth ini w D B0 v0 ph s nL n0 ad0 ad ca σ H locs lsC ls st) (K : zKt0 p l e R s m args below meth c Q w D B0 v0 ph cd nL n0 ad0 r kn) (HR : zRm R w n0 d r) (ge : ∀ j ls st σ', kn j ls st σ' = some r → σ' 0 0 ≤ r.2 0 0) (KC : ∀ y' as σ' k c2 n2 pc' ls' st', kc y' as σ' k c2 n2 pc' ls' st' = some r → ∃ d' r', d = d' + 1 ∧ zMet l w D B0 v0 ph d' y' as σ' r' ∧ (zspread as).length ≤ zml y' ∧ σ' 0 0 ≤ r'.2 0 0 ∧ kn pc' ls' (zpush k c2 n2 r'.1 st') r'.2 = some r) (RT : r.2 = σ → decode b off = .ok (zrins (zkindOf ret), 1) → zvoks w (σ 0 0) (zpush (zkindOf ret) (zrtP y).1 (zrtP y).2 r.1 []) → zrng (zkindOf ret) r.1 → W p l e R s m args below meth c H locs (σ 0 0 - n0).toNat (zsl w (σ 0 0) - zsl w n0) Q (F0 m off lsC ((zpush (zkindOf ret) (zrtP y).1 (zrtP y).2 r.1 []).map (zcv ad v0)))) : W p l e R s m args below meth c H locs (σ 0 0 - n0).toNat (zsl w (σ 0 0) - zsl w n0) Q (F0 m off lsC (st.map (zcv ad v0))) := by
  have S := zST_of C G
  have N := zNX_of K G
  have hv := G.2.1
  have hlen := G.2.2.2.2.2.2.2.2.2
  have hd := Hd
  have ho := Ho
  exact zp_irem S N (hd rfl) (ho rfl) h
set_option maxRecDepth 100000 in
theorem zz_iand  (Hd : Nat.beq (zfalls (.iand)) 2 = false → decode b off = .ok ((.iand), zlenf (.iand))) (Ho : zfalls (.iand) = 0 → zoff cd (j + 1) = off + zlenf (.iand)) {len : Nat} (hd0 : decode b off = .ok ((.iand), len)) (hax : zaux cd y own ret ini (off, (.iand), an, az) = true) (hxt : zxtra (off, (.iand), an, az) = true) (h : zstp zarR ph (zK w) (zR w) zrd zup zcp kn kc (fun x m => some (x, m)) none j ls st σ ((.iand)) an az = some r) (C : zCx p s m args c b nL own D B0) (G : zGd meth ini w D B0 v0 ph s nL n0 ad0 ad ca σ H locs lsC ls st) (K : zKt0 p l e R s m args below meth c Q w D B0 v0 ph cd nL n0 ad0 r kn) (HR : zRm R w n0 d r) (ge : ∀ j ls st σ', kn j ls st σ' = some r → σ' 0 0 ≤ r.2 0 0) (KC : ∀ y' as σ' k c2 n2 pc' ls' st', kc y' as σ' k c2 n2 pc' ls' st' = some r → ∃ d' r', d = d' + 1 ∧ zMet l w D B0 v0 ph d' y' as σ' r' ∧ (zspread as).length ≤ zml y' ∧ σ' 0 0 ≤ r'.2 0 0 ∧ kn pc' ls' (zpush k c2 n2 r'.1 st') r'.2 = some r) (RT : r.2 = σ → decode b off = .ok (zrins (zkindOf ret), 1) → zvoks w (σ 0 0) (zpush (zkindOf ret) (zrtP y).1 (zrtP y).2 r.1 []) → zrng (zkindOf ret) r.1 → W p l e R s m args below meth c H locs (σ 0 0 - n0).toNat (zsl w (σ 0 0) - zsl w n0) Q (F0 m off lsC ((zpush (zkindOf ret) (zrtP y).1 (zrtP y).2 r.1 []).map (zcv ad v0)))) : W p l e R s m args below meth c H locs (σ 0 0 - n0).toNat (zsl w (σ 0 0) - zsl w n0) Q (F0 m off lsC (st.map (zcv ad v0))) := by
  have S := zST_of C G
  have N := zNX_of K G
  have hv := G.2.1
  have hlen := G.2.2.2.2.2.2.2.2.2
  have hd := Hd
  have ho := Ho
  have hd := hd rfl
  have ho := ho rfl
  have h1 : zi2 none st (fun x y st' => kn (j + 1) ls (zI (zarR 6 x y) :: st') σ) = some r := h
  simp only [zar_6] at h1
  exact zp_iand S N hd ho h1
set_option maxRecDepth 100000 in
theorem zz_ior  (Hd : Nat.beq (zfalls (.ior)) 2 = false → decode b off = .ok ((.ior), zlenf (.ior))) (Ho : zfalls (.ior) = 0 → zoff cd (j + 1) = off + zlenf (.ior)) {len : Nat} (hd0 : decode b off = .ok ((.ior), len)) (hax : zaux cd y own ret ini (off, (.ior), an, az) = true) (hxt : zxtra (off, (.ior), an, az) = true) (h : zstp zarR ph (zK w) (zR w) zrd zup zcp kn kc (fun x m => some (x, m)) none j ls st σ ((.ior)) an az = some r) (C : zCx p s m args c b nL own D B0) (G : zGd meth ini w D B0 v0 ph s nL n0 ad0 ad ca σ H locs lsC ls st) (K : zKt0 p l e R s m args below meth c Q w D B0 v0 ph cd nL n0 ad0 r kn) (HR : zRm R w n0 d r) (ge : ∀ j ls st σ', kn j ls st σ' = some r → σ' 0 0 ≤ r.2 0 0) (KC : ∀ y' as σ' k c2 n2 pc' ls' st', kc y' as σ' k c2 n2 pc' ls' st' = some r → ∃ d' r', d = d' + 1 ∧ zMet l w D B0 v0 ph d' y' as σ' r' ∧ (zspread as).length ≤ zml y' ∧ σ' 0 0 ≤ r'.2 0 0 ∧ kn pc' ls' (zpush k c2 n2 r'.1 st') r'.2 = some r) (RT : r.2 = σ → decode b off = .ok (zrins (zkindOf ret), 1) → zvoks w (σ 0 0) (zpush (zkindOf ret) (zrtP y).1 (zrtP y).2 r.1 []) → zrng (zkindOf ret) r.1 → W p l e R s m args below meth c H locs (σ 0 0 - n0).toNat (zsl w (σ 0 0) - zsl w n0) Q (F0 m off lsC ((zpush (zkindOf ret) (zrtP y).1 (zrtP y).2 r.1 []).map (zcv ad v0)))) : W p l e R s m args below meth c H locs (σ 0 0 - n0).toNat (zsl w (σ 0 0) - zsl w n0) Q (F0 m off lsC (st.map (zcv ad v0))) := by
  have S := zST_of C G
  have N := zNX_of K G
  have hv := G.2.1
  have hlen := G.2.2.2.2.2.2.2.2.2
  have hd := Hd
  have ho := Ho
  have hd := hd rfl
  have ho := ho rfl
  have h1 : zi2 none st (fun x y st' => kn (j + 1) ls (zI (zarR 7 x y) :: st') σ) = some r := h
  simp only [zar_7] at h1
  exact zp_ior S N hd ho h1
set_option maxRecDepth 100000 in
theorem zz_ixor  (Hd : Nat.beq (zfalls (.ixor)) 2 = false → decode b off = .ok ((.ixor), zlenf (.ixor))) (Ho : zfalls (.ixor) = 0 → zoff cd (j + 1) = off + zlenf (.ixor)) {len : Nat} (hd0 : decode b off = .ok ((.ixor), len)) (hax : zaux cd y own ret ini (off, (.ixor), an, az) = true) (hxt : zxtra (off, (.ixor), an, az) = true) (h : zstp zarR ph (zK w) (zR w) zrd zup zcp kn kc (fun x m => some (x, m)) none j ls st σ ((.ixor)) an az = some r) (C : zCx p s m args c b nL own D B0) (G : zGd meth ini w D B0 v0 ph s nL n0 ad0 ad ca σ H locs lsC ls st) (K : zKt0 p l e R s m args below meth c Q w D B0 v0 ph cd nL n0 ad0 r kn) (HR : zRm R w n0 d r) (ge : ∀ j ls st σ', kn j ls st σ' = some r → σ' 0 0 ≤ r.2 0 0) (KC : ∀ y' as σ' k c2 n2 pc' ls' st', kc y' as σ' k c2 n2 pc' ls' st' = some r → ∃ d' r', d = d' + 1 ∧ zMet l w D B0 v0 ph d' y' as σ' r' ∧ (zspread as).length ≤ zml y' ∧ σ' 0 0 ≤ r'.2 0 0 ∧ kn pc' ls' (zpush k c2 n2 r'.1 st') r'.2 = some r) (RT : r.2 = σ → decode b off = .ok (zrins (zkindOf ret), 1) → zvoks w (σ 0 0) (zpush (zkindOf ret) (zrtP y).1 (zrtP y).2 r.1 []) → zrng (zkindOf ret) r.1 → W p l e R s m args below meth c H locs (σ 0 0 - n0).toNat (zsl w (σ 0 0) - zsl w n0) Q (F0 m off lsC ((zpush (zkindOf ret) (zrtP y).1 (zrtP y).2 r.1 []).map (zcv ad v0)))) : W p l e R s m args below meth c H locs (σ 0 0 - n0).toNat (zsl w (σ 0 0) - zsl w n0) Q (F0 m off lsC (st.map (zcv ad v0))) := by
  have S := zST_of C G
  have N := zNX_of K G
  have hv := G.2.1
  have hlen := G.2.2.2.2.2.2.2.2.2
  have hd := Hd
  have ho := Ho
  have hd := hd rfl
  have ho := ho rfl
  have h1 : zi2 none st (fun x y st' => kn (j + 1) ls (zI (zarR 8 x y) :: st') σ) = some r := h
  simp only [zar_8] at h1
  exact zp_ixor S N hd ho h1
set_option maxRecDepth 100000 in
theorem zz_ishl  (Hd : Nat.beq (zfalls (.ishl)) 2 = false → decode b off = .ok ((.ishl), zlenf (.ishl))) (Ho : zfalls (.ishl) = 0 → zoff cd (j + 1) = off + zlenf (.ishl)) {len : Nat} (hd0 : decode b off = .ok ((.ishl), len)) (hax : zaux cd y own ret ini (off, (.ishl), an, az) = true) (hxt : zxtra (off, (.ishl), an, az) = true) (h : zstp zarR ph (zK w) (zR w) zrd zup zcp kn kc (fun x m => some (x, m)) none j ls st σ ((.ishl)) an az = some r) (C : zCx p s m args c b nL own D B0) (G : zGd meth ini w D B0 v0 ph s nL n0 ad0 ad ca σ H locs lsC ls st) (K : zKt0 p l e R s m args below meth c Q w D B0 v0 ph cd nL n0 ad0 r kn) (HR : zRm R w n0 d r) (ge : ∀ j ls st σ', kn j ls st σ' = some r → σ' 0 0 ≤ r.2 0 0) (KC : ∀ y' as σ' k c2 n2 pc' ls' st', kc y' as σ' k c2 n2 pc' ls' st' = some r → ∃ d' r', d = d' + 1 ∧ zMet l w D B0 v0 ph d' y' as σ' r' ∧ (zspread as).length ≤ zml y' ∧ σ' 0 0 ≤ r'.2 0 0 ∧ kn pc' ls' (zpush k c2 n2 r'.1 st') r'.2 = some r) (RT : r.2 = σ → decode b off = .ok (zrins (zkindOf ret), 1) → zvoks w (σ 0 0) (zpush (zkindOf ret) (zrtP y).1 (zrtP y).2 r.1 []) → zrng (zkindOf ret) r.1 → W p l e R s m args below meth c H locs (σ 0 0 - n0).toNat (zsl w (σ 0 0) - zsl w n0) Q (F0 m off lsC ((zpush (zkindOf ret) (zrtP y).1 (zrtP y).2 r.1 []).map (zcv ad v0)))) : W p l e R s m args below meth c H locs (σ 0 0 - n0).toNat (zsl w (σ 0 0) - zsl w n0) Q (F0 m off lsC (st.map (zcv ad v0))) := by
  have S := zST_of C G
  have N := zNX_of K G
  have hv := G.2.1
  have hlen := G.2.2.2.2.2.2.2.2.2
  have hd := Hd
  have ho := Ho
  exact zp_ishl S N (hd rfl) (ho rfl) h
set_option maxRecDepth 100000 in
theorem zz_ishr  (Hd : Nat.beq (zfalls (.ishr)) 2 = false → decode b off = .ok ((.ishr), zlenf (.ishr))) (Ho : zfalls (.ishr) = 0 → zoff cd (j + 1) = off + zlenf (.ishr)) {len : Nat} (hd0 : decode b off = .ok ((.ishr), len)) (hax : zaux cd y own ret ini (off, (.ishr), an, az) = true) (hxt : zxtra (off, (.ishr), an, az) = true) (h : zstp zarR ph (zK w) (zR w) zrd zup zcp kn kc (fun x m => some (x, m)) none j ls st σ ((.ishr)) an az = some r) (C : zCx p s m args c b nL own D B0) (G : zGd meth ini w D B0 v0 ph s nL n0 ad0 ad ca σ H locs lsC ls st) (K : zKt0 p l e R s m args below meth c Q w D B0 v0 ph cd nL n0 ad0 r kn) (HR : zRm R w n0 d r) (ge : ∀ j ls st σ', kn j ls st σ' = some r → σ' 0 0 ≤ r.2 0 0) (KC : ∀ y' as σ' k c2 n2 pc' ls' st', kc y' as σ' k c2 n2 pc' ls' st' = some r → ∃ d' r', d = d' + 1 ∧ zMet l w D B0 v0 ph d' y' as σ' r' ∧ (zspread as).length ≤ zml y' ∧ σ' 0 0 ≤ r'.2 0 0 ∧ kn pc' ls' (zpush k c2 n2 r'.1 st') r'.2 = some r) (RT : r.2 = σ → decode b off = .ok (zrins (zkindOf ret), 1) → zvoks w (σ 0 0) (zpush (zkindOf ret) (zrtP y).1 (zrtP y).2 r.1 []) → zrng (zkindOf ret) r.1 → W p l e R s m args below meth c H locs (σ 0 0 - n0).toNat (zsl w (σ 0 0) - zsl w n0) Q (F0 m off lsC ((zpush (zkindOf ret) (zrtP y).1 (zrtP y).2 r.1 []).map (zcv ad v0)))) : W p l e R s m args below meth c H locs (σ 0 0 - n0).toNat (zsl w (σ 0 0) - zsl w n0) Q (F0 m off lsC (st.map (zcv ad v0))) := by
  have S := zST_of C G
  have N := zNX_of K G
  have hv := G.2.1
  have hlen := G.2.2.2.2.2.2.2.2.2
  have hd := Hd
  have ho := Ho
  exact zp_ishr S N (hd rfl) (ho rfl) h
set_option maxRecDepth 100000 in
theorem zz_iushr  (Hd : Nat.beq (zfalls (.iushr)) 2 = false → decode b off = .ok ((.iushr), zlenf (.iushr))) (Ho : zfalls (.iushr) = 0 → zoff cd (j + 1) = off + zlenf (.iushr)) {len : Nat} (hd0 : decode b off = .ok ((.iushr), len)) (hax : zaux cd y own ret ini (off, (.iushr), an, az) = true) (hxt : zxtra (off, (.iushr), an, az) = true) (h : zstp zarR ph (zK w) (zR w) zrd zup zcp kn kc (fun x m => some (x, m)) none j ls st σ ((.iushr)) an az = some r) (C : zCx p s m args c b nL own D B0) (G : zGd meth ini w D B0 v0 ph s nL n0 ad0 ad ca σ H locs lsC ls st) (K : zKt0 p l e R s m args below meth c Q w D B0 v0 ph cd nL n0 ad0 r kn) (HR : zRm R w n0 d r) (ge : ∀ j ls st σ', kn j ls st σ' = some r → σ' 0 0 ≤ r.2 0 0) (KC : ∀ y' as σ' k c2 n2 pc' ls' st', kc y' as σ' k c2 n2 pc' ls' st' = some r → ∃ d' r', d = d' + 1 ∧ zMet l w D B0 v0 ph d' y' as σ' r' ∧ (zspread as).length ≤ zml y' ∧ σ' 0 0 ≤ r'.2 0 0 ∧ kn pc' ls' (zpush k c2 n2 r'.1 st') r'.2 = some r) (RT : r.2 = σ → decode b off = .ok (zrins (zkindOf ret), 1) → zvoks w (σ 0 0) (zpush (zkindOf ret) (zrtP y).1 (zrtP y).2 r.1 []) → zrng (zkindOf ret) r.1 → W p l e R s m args below meth c H locs (σ 0 0 - n0).toNat (zsl w (σ 0 0) - zsl w n0) Q (F0 m off lsC ((zpush (zkindOf ret) (zrtP y).1 (zrtP y).2 r.1 []).map (zcv ad v0)))) : W p l e R s m args below meth c H locs (σ 0 0 - n0).toNat (zsl w (σ 0 0) - zsl w n0) Q (F0 m off lsC (st.map (zcv ad v0))) := by
  have S := zST_of C G
  have N := zNX_of K G
  have hv := G.2.1
  have hlen := G.2.2.2.2.2.2.2.2.2
  have hd := Hd
  have ho := Ho
  have hd := hd rfl
  have ho := ho rfl
  have h1 : zi2 none st (fun x y st' => kn (j + 1) ls (zI (zarR 11 x y) :: st') σ) = some r := h
  simp only [zar_11] at h1
  exact zp_iushr S N hd ho h1
set_option maxRecDepth 100000 in
theorem zz_ladd  (Hd : Nat.beq (zfalls (.ladd)) 2 = false → decode b off = .ok ((.ladd), zlenf (.ladd))) (Ho : zfalls (.ladd) = 0 → zoff cd (j + 1) = off + zlenf (.ladd)) {len : Nat} (hd0 : decode b off = .ok ((.ladd), len)) (hax : zaux cd y own ret ini (off, (.ladd), an, az) = true) (hxt : zxtra (off, (.ladd), an, az) = true) (h : zstp zarR ph (zK w) (zR w) zrd zup zcp kn kc (fun x m => some (x, m)) none j ls st σ ((.ladd)) an az = some r) (C : zCx p s m args c b nL own D B0) (G : zGd meth ini w D B0 v0 ph s nL n0 ad0 ad ca σ H locs lsC ls st) (K : zKt0 p l e R s m args below meth c Q w D B0 v0 ph cd nL n0 ad0 r kn) (HR : zRm R w n0 d r) (ge : ∀ j ls st σ', kn j ls st σ' = some r → σ' 0 0 ≤ r.2 0 0) (KC : ∀ y' as σ' k c2 n2 pc' ls' st', kc y' as σ' k c2 n2 pc' ls' st' = some r → ∃ d' r', d = d' + 1 ∧ zMet l w D B0 v0 ph d' y' as σ' r' ∧ (zspread as).length ≤ zml y' ∧ σ' 0 0 ≤ r'.2 0 0 ∧ kn pc' ls' (zpush k c2 n2 r'.1 st') r'.2 = some r) (RT : r.2 = σ → decode b off = .ok (zrins (zkindOf ret), 1) → zvoks w (σ 0 0) (zpush (zkindOf ret) (zrtP y).1 (zrtP y).2 r.1 []) → zrng (zkindOf ret) r.1 → W p l e R s m args below meth c H locs (σ 0 0 - n0).toNat (zsl w (σ 0 0) - zsl w n0) Q (F0 m off lsC ((zpush (zkindOf ret) (zrtP y).1 (zrtP y).2 r.1 []).map (zcv ad v0)))) : W p l e R s m args below meth c H locs (σ 0 0 - n0).toNat (zsl w (σ 0 0) - zsl w n0) Q (F0 m off lsC (st.map (zcv ad v0))) := by
  have S := zST_of C G
  have N := zNX_of K G
  have hv := G.2.1
  have hlen := G.2.2.2.2.2.2.2.2.2
  have hd := Hd
  have ho := Ho
  exact zp_ladd S N (hd rfl) (ho rfl) h
set_option maxRecDepth 100000 in
theorem zz_lsub  (Hd : Nat.beq (zfalls (.lsub)) 2 = false → decode b off = .ok ((.lsub), zlenf (.lsub))) (Ho : zfalls (.lsub) = 0 → zoff cd (j + 1) = off + zlenf (.lsub)) {len : Nat} (hd0 : decode b off = .ok ((.lsub), len)) (hax : zaux cd y own ret ini (off, (.lsub), an, az) = true) (hxt : zxtra (off, (.lsub), an, az) = true) (h : zstp zarR ph (zK w) (zR w) zrd zup zcp kn kc (fun x m => some (x, m)) none j ls st σ ((.lsub)) an az = some r) (C : zCx p s m args c b nL own D B0) (G : zGd meth ini w D B0 v0 ph s nL n0 ad0 ad ca σ H locs lsC ls st) (K : zKt0 p l e R s m args below meth c Q w D B0 v0 ph cd nL n0 ad0 r kn) (HR : zRm R w n0 d r) (ge : ∀ j ls st σ', kn j ls st σ' = some r → σ' 0 0 ≤ r.2 0 0) (KC : ∀ y' as σ' k c2 n2 pc' ls' st', kc y' as σ' k c2 n2 pc' ls' st' = some r → ∃ d' r', d = d' + 1 ∧ zMet l w D B0 v0 ph d' y' as σ' r' ∧ (zspread as).length ≤ zml y' ∧ σ' 0 0 ≤ r'.2 0 0 ∧ kn pc' ls' (zpush k c2 n2 r'.1 st') r'.2 = some r) (RT : r.2 = σ → decode b off = .ok (zrins (zkindOf ret), 1) → zvoks w (σ 0 0) (zpush (zkindOf ret) (zrtP y).1 (zrtP y).2 r.1 []) → zrng (zkindOf ret) r.1 → W p l e R s m args below meth c H locs (σ 0 0 - n0).toNat (zsl w (σ 0 0) - zsl w n0) Q (F0 m off lsC ((zpush (zkindOf ret) (zrtP y).1 (zrtP y).2 r.1 []).map (zcv ad v0)))) : W p l e R s m args below meth c H locs (σ 0 0 - n0).toNat (zsl w (σ 0 0) - zsl w n0) Q (F0 m off lsC (st.map (zcv ad v0))) := by
  have S := zST_of C G
  have N := zNX_of K G
  have hv := G.2.1
  have hlen := G.2.2.2.2.2.2.2.2.2
  have hd := Hd
  have ho := Ho
  exact zp_lsub S N (hd rfl) (ho rfl) h
set_option maxRecDepth 100000 in
theorem zz_lmul  (Hd : Nat.beq (zfalls (.lmul)) 2 = false → decode b off = .ok ((.lmul), zlenf (.lmul))) (Ho : zfalls (.lmul) = 0 → zoff cd (j + 1) = off + zlenf (.lmul)) {len : Nat} (hd0 : decode b off = .ok ((.lmul), len)) (hax : zaux cd y own ret ini (off, (.lmul), an, az) = true) (hxt : zxtra (off, (.lmul), an, az) = true) (h : zstp zarR ph (zK w) (zR w) zrd zup zcp kn kc (fun x m => some (x, m)) none j ls st σ ((.lmul)) an az = some r) (C : zCx p s m args c b nL own D B0) (G : zGd meth ini w D B0 v0 ph s nL n0 ad0 ad ca σ H locs lsC ls st) (K : zKt0 p l e R s m args below meth c Q w D B0 v0 ph cd nL n0 ad0 r kn) (HR : zRm R w n0 d r) (ge : ∀ j ls st σ', kn j ls st σ' = some r → σ' 0 0 ≤ r.2 0 0) (KC : ∀ y' as σ' k c2 n2 pc' ls' st', kc y' as σ' k c2 n2 pc' ls' st' = some r → ∃ d' r', d = d' + 1 ∧ zMet l w D B0 v0 ph d' y' as σ' r' ∧ (zspread as).length ≤ zml y' ∧ σ' 0 0 ≤ r'.2 0 0 ∧ kn pc' ls' (zpush k c2 n2 r'.1 st') r'.2 = some r) (RT : r.2 = σ → decode b off = .ok (zrins (zkindOf ret), 1) → zvoks w (σ 0 0) (zpush (zkindOf ret) (zrtP y).1 (zrtP y).2 r.1 []) → zrng (zkindOf ret) r.1 → W p l e R s m args below meth c H locs (σ 0 0 - n0).toNat (zsl w (σ 0 0) - zsl w n0) Q (F0 m off lsC ((zpush (zkindOf ret) (zrtP y).1 (zrtP y).2 r.1 []).map (zcv ad v0)))) : W p l e R s m args below meth c H locs (σ 0 0 - n0).toNat (zsl w (σ 0 0) - zsl w n0) Q (F0 m off lsC (st.map (zcv ad v0))) := by
  have S := zST_of C G
  have N := zNX_of K G
  have hv := G.2.1
  have hlen := G.2.2.2.2.2.2.2.2.2
  have hd := Hd
  have ho := Ho
  exact zp_lmul S N (hd rfl) (ho rfl) h
set_option maxRecDepth 100000 in
theorem zz_ldiv  (Hd : Nat.beq (zfalls (.ldiv)) 2 = false → decode b off = .ok ((.ldiv), zlenf (.ldiv))) (Ho : zfalls (.ldiv) = 0 → zoff cd (j + 1) = off + zlenf (.ldiv)) {len : Nat} (hd0 : decode b off = .ok ((.ldiv), len)) (hax : zaux cd y own ret ini (off, (.ldiv), an, az) = true) (hxt : zxtra (off, (.ldiv), an, az) = true) (h : zstp zarR ph (zK w) (zR w) zrd zup zcp kn kc (fun x m => some (x, m)) none j ls st σ ((.ldiv)) an az = some r) (C : zCx p s m args c b nL own D B0) (G : zGd meth ini w D B0 v0 ph s nL n0 ad0 ad ca σ H locs lsC ls st) (K : zKt0 p l e R s m args below meth c Q w D B0 v0 ph cd nL n0 ad0 r kn) (HR : zRm R w n0 d r) (ge : ∀ j ls st σ', kn j ls st σ' = some r → σ' 0 0 ≤ r.2 0 0) (KC : ∀ y' as σ' k c2 n2 pc' ls' st', kc y' as σ' k c2 n2 pc' ls' st' = some r → ∃ d' r', d = d' + 1 ∧ zMet l w D B0 v0 ph d' y' as σ' r' ∧ (zspread as).length ≤ zml y' ∧ σ' 0 0 ≤ r'.2 0 0 ∧ kn pc' ls' (zpush k c2 n2 r'.1 st') r'.2 = some r) (RT : r.2 = σ → decode b off = .ok (zrins (zkindOf ret), 1) → zvoks w (σ 0 0) (zpush (zkindOf ret) (zrtP y).1 (zrtP y).2 r.1 []) → zrng (zkindOf ret) r.1 → W p l e R s m args below meth c H locs (σ 0 0 - n0).toNat (zsl w (σ 0 0) - zsl w n0) Q (F0 m off lsC ((zpush (zkindOf ret) (zrtP y).1 (zrtP y).2 r.1 []).map (zcv ad v0)))) : W p l e R s m args below meth c H locs (σ 0 0 - n0).toNat (zsl w (σ 0 0) - zsl w n0) Q (F0 m off lsC (st.map (zcv ad v0))) := by
  have S := zST_of C G
  have N := zNX_of K G
  have hv := G.2.1
  have hlen := G.2.2.2.2.2.2.2.2.2
  have hd := Hd
  have ho := Ho
  exact zp_ldiv S N (hd rfl) (ho rfl) h
set_option maxRecDepth 100000 in
theorem zz_lrem  (Hd : Nat.beq (zfalls (.lrem)) 2 = false → decode b off = .ok ((.lrem), zlenf (.lrem))) (Ho : zfalls (.lrem) = 0 → zoff cd (j + 1) = off + zlenf (.lrem)) {len : Nat} (hd0 : decode b off = .ok ((.lrem), len)) (hax : zaux cd y own ret ini (off, (.lrem), an, az) = true) (hxt : zxtra (off, (.lrem), an, az) = true) (h : zstp zarR ph (zK w) (zR w) zrd zup zcp kn kc (fun x m => some (x, m)) none j ls st σ ((.lrem)) an az = some r) (C : zCx p s m args c b nL own D B0) (G : zGd meth ini w D B0 v0 ph s nL n0 ad0 ad ca σ H locs lsC ls st) (K : zKt0 p l e R s m args below meth c Q w D B0 v0 ph cd nL n0 ad0 r kn) (HR : zRm R w n0 d r) (ge : ∀ j ls st σ', kn j ls st σ' = some r → σ' 0 0 ≤ r.2 0 0) (KC : ∀ y' as σ' k c2 n2 pc' ls' st', kc y' as σ' k c2 n2 pc' ls' st' = some r → ∃ d' r', d = d' + 1 ∧ zMet l w D B0 v0 ph d' y' as σ' r' ∧ (zspread as).length ≤ zml y' ∧ σ' 0 0 ≤ r'.2 0 0 ∧ kn pc' ls' (zpush k c2 n2 r'.1 st') r'.2 = some r) (RT : r.2 = σ → decode b off = .ok (zrins (zkindOf ret), 1) → zvoks w (σ 0 0) (zpush (zkindOf ret) (zrtP y).1 (zrtP y).2 r.1 []) → zrng (zkindOf ret) r.1 → W p l e R s m args below meth c H locs (σ 0 0 - n0).toNat (zsl w (σ 0 0) - zsl w n0) Q (F0 m off lsC ((zpush (zkindOf ret) (zrtP y).1 (zrtP y).2 r.1 []).map (zcv ad v0)))) : W p l e R s m args below meth c H locs (σ 0 0 - n0).toNat (zsl w (σ 0 0) - zsl w n0) Q (F0 m off lsC (st.map (zcv ad v0))) := by
  have S := zST_of C G
  have N := zNX_of K G
  have hv := G.2.1
  have hlen := G.2.2.2.2.2.2.2.2.2
  have hd := Hd
  have ho := Ho
  exact zp_lrem S N (hd rfl) (ho rfl) h
set_option maxRecDepth 100000 in
theorem zz_land  (Hd : Nat.beq (zfalls (.land)) 2 = false → decode b off = .ok ((.land), zlenf (.land))) (Ho : zfalls (.land) = 0 → zoff cd (j + 1) = off + zlenf (.land)) {len : Nat} (hd0 : decode b off = .ok ((.land), len)) (hax : zaux cd y own ret ini (off, (.land), an, az) = true) (hxt : zxtra (off, (.land), an, az) = true) (h : zstp zarR ph (zK w) (zR w) zrd zup zcp kn kc (fun x m => some (x, m)) none j ls st σ ((.land)) an az = some r) (C : zCx p s m args c b nL own D B0) (G : zGd meth ini w D B0 v0 ph s nL n0 ad0 ad ca σ H locs lsC ls st) (K : zKt0 p l e R s m args below meth c Q w D B0 v0 ph cd nL n0 ad0 r kn) (HR : zRm R w n0 d r) (ge : ∀ j ls st σ', kn j ls st σ' = some r → σ' 0 0 ≤ r.2 0 0) (KC : ∀ y' as σ' k c2 n2 pc' ls' st', kc y' as σ' k c2 n2 pc' ls' st' = some r → ∃ d' r', d = d' + 1 ∧ zMet l w D B0 v0 ph d' y' as σ' r' ∧ (zspread as).length ≤ zml y' ∧ σ' 0 0 ≤ r'.2 0 0 ∧ kn pc' ls' (zpush k c2 n2 r'.1 st') r'.2 = some r) (RT : r.2 = σ → decode b off = .ok (zrins (zkindOf ret), 1) → zvoks w (σ 0 0) (zpush (zkindOf ret) (zrtP y).1 (zrtP y).2 r.1 []) → zrng (zkindOf ret) r.1 → W p l e R s m args below meth c H locs (σ 0 0 - n0).toNat (zsl w (σ 0 0) - zsl w n0) Q (F0 m off lsC ((zpush (zkindOf ret) (zrtP y).1 (zrtP y).2 r.1 []).map (zcv ad v0)))) : W p l e R s m args below meth c H locs (σ 0 0 - n0).toNat (zsl w (σ 0 0) - zsl w n0) Q (F0 m off lsC (st.map (zcv ad v0))) := by
  have S := zST_of C G
  have N := zNX_of K G
  have hv := G.2.1
  have hlen := G.2.2.2.2.2.2.2.2.2
  have hd := Hd
  have ho := Ho
  have hd := hd rfl
  have ho := ho rfl
  have h1 : zj2 none st (fun x y st' => kn (j + 1) ls (zJ (zarR 17 x y) :: st') σ) = some r := h
  simp only [zar_17] at h1
  exact zp_land S N hd ho h1
set_option maxRecDepth 100000 in
theorem zz_lor  (Hd : Nat.beq (zfalls (.lor)) 2 = false → decode b off = .ok ((.lor), zlenf (.lor))) (Ho : zfalls (.lor) = 0 → zoff cd (j + 1) = off + zlenf (.lor)) {len : Nat} (hd0 : decode b off = .ok ((.lor), len)) (hax : zaux cd y own ret ini (off, (.lor), an, az) = true) (hxt : zxtra (off, (.lor), an, az) = true) (h : zstp zarR ph (zK w) (zR w) zrd zup zcp kn kc (fun x m => some (x, m)) none j ls st σ ((.lor)) an az = some r) (C : zCx p s m args c b nL own D B0) (G : zGd meth ini w D B0 v0 ph s nL n0 ad0 ad ca σ H locs lsC ls st) (K : zKt0 p l e R s m args below meth c Q w D B0 v0 ph cd nL n0 ad0 r kn) (HR : zRm R w n0 d r) (ge : ∀ j ls st σ', kn j ls st σ' = some r → σ' 0 0 ≤ r.2 0 0) (KC : ∀ y' as σ' k c2 n2 pc' ls' st', kc y' as σ' k c2 n2 pc' ls' st' = some r → ∃ d' r', d = d' + 1 ∧ zMet l w D B0 v0 ph d' y' as σ' r' ∧ (zspread as).length ≤ zml y' ∧ σ' 0 0 ≤ r'.2 0 0 ∧ kn pc' ls' (zpush k c2 n2 r'.1 st') r'.2 = some r) (RT : r.2 = σ → decode b off = .ok (zrins (zkindOf ret), 1) → zvoks w (σ 0 0) (zpush (zkindOf ret) (zrtP y).1 (zrtP y).2 r.1 []) → zrng (zkindOf ret) r.1 → W p l e R s m args below meth c H locs (σ 0 0 - n0).toNat (zsl w (σ 0 0) - zsl w n0) Q (F0 m off lsC ((zpush (zkindOf ret) (zrtP y).1 (zrtP y).2 r.1 []).map (zcv ad v0)))) : W p l e R s m args below meth c H locs (σ 0 0 - n0).toNat (zsl w (σ 0 0) - zsl w n0) Q (F0 m off lsC (st.map (zcv ad v0))) := by
  have S := zST_of C G
  have N := zNX_of K G
  have hv := G.2.1
  have hlen := G.2.2.2.2.2.2.2.2.2
  have hd := Hd
  have ho := Ho
  have hd := hd rfl
  have ho := ho rfl
  have h1 : zj2 none st (fun x y st' => kn (j + 1) ls (zJ (zarR 18 x y) :: st') σ) = some r := h
  simp only [zar_18] at h1
  exact zp_lor S N hd ho h1
set_option maxRecDepth 100000 in
theorem zz_lxor  (Hd : Nat.beq (zfalls (.lxor)) 2 = false → decode b off = .ok ((.lxor), zlenf (.lxor))) (Ho : zfalls (.lxor) = 0 → zoff cd (j + 1) = off + zlenf (.lxor)) {len : Nat} (hd0 : decode b off = .ok ((.lxor), len)) (hax : zaux cd y own ret ini (off, (.lxor), an, az) = true) (hxt : zxtra (off, (.lxor), an, az) = true) (h : zstp zarR ph (zK w) (zR w) zrd zup zcp kn kc (fun x m => some (x, m)) none j ls st σ ((.lxor)) an az = some r) (C : zCx p s m args c b nL own D B0) (G : zGd meth ini w D B0 v0 ph s nL n0 ad0 ad ca σ H locs lsC ls st) (K : zKt0 p l e R s m args below meth c Q w D B0 v0 ph cd nL n0 ad0 r kn) (HR : zRm R w n0 d r) (ge : ∀ j ls st σ', kn j ls st σ' = some r → σ' 0 0 ≤ r.2 0 0) (KC : ∀ y' as σ' k c2 n2 pc' ls' st', kc y' as σ' k c2 n2 pc' ls' st' = some r → ∃ d' r', d = d' + 1 ∧ zMet l w D B0 v0 ph d' y' as σ' r' ∧ (zspread as).length ≤ zml y' ∧ σ' 0 0 ≤ r'.2 0 0 ∧ kn pc' ls' (zpush k c2 n2 r'.1 st') r'.2 = some r) (RT : r.2 = σ → decode b off = .ok (zrins (zkindOf ret), 1) → zvoks w (σ 0 0) (zpush (zkindOf ret) (zrtP y).1 (zrtP y).2 r.1 []) → zrng (zkindOf ret) r.1 → W p l e R s m args below meth c H locs (σ 0 0 - n0).toNat (zsl w (σ 0 0) - zsl w n0) Q (F0 m off lsC ((zpush (zkindOf ret) (zrtP y).1 (zrtP y).2 r.1 []).map (zcv ad v0)))) : W p l e R s m args below meth c H locs (σ 0 0 - n0).toNat (zsl w (σ 0 0) - zsl w n0) Q (F0 m off lsC (st.map (zcv ad v0))) := by
  have S := zST_of C G
  have N := zNX_of K G
  have hv := G.2.1
  have hlen := G.2.2.2.2.2.2.2.2.2
  have hd := Hd
  have ho := Ho
  have hd := hd rfl
  have ho := ho rfl
  have h1 : zj2 none st (fun x y st' => kn (j + 1) ls (zJ (zarR 19 x y) :: st') σ) = some r := h
  simp only [zar_19] at h1
  exact zp_lxor S N hd ho h1
set_option maxRecDepth 100000 in
theorem zz_lshl  (Hd : Nat.beq (zfalls (.lshl)) 2 = false → decode b off = .ok ((.lshl), zlenf (.lshl))) (Ho : zfalls (.lshl) = 0 → zoff cd (j + 1) = off + zlenf (.lshl)) {len : Nat} (hd0 : decode b off = .ok ((.lshl), len)) (hax : zaux cd y own ret ini (off, (.lshl), an, az) = true) (hxt : zxtra (off, (.lshl), an, az) = true) (h : zstp zarR ph (zK w) (zR w) zrd zup zcp kn kc (fun x m => some (x, m)) none j ls st σ ((.lshl)) an az = some r) (C : zCx p s m args c b nL own D B0) (G : zGd meth ini w D B0 v0 ph s nL n0 ad0 ad ca σ H locs lsC ls st) (K : zKt0 p l e R s m args below meth c Q w D B0 v0 ph cd nL n0 ad0 r kn) (HR : zRm R w n0 d r) (ge : ∀ j ls st σ', kn j ls st σ' = some r → σ' 0 0 ≤ r.2 0 0) (KC : ∀ y' as σ' k c2 n2 pc' ls' st', kc y' as σ' k c2 n2 pc' ls' st' = some r → ∃ d' r', d = d' + 1 ∧ zMet l w D B0 v0 ph d' y' as σ' r' ∧ (zspread as).length ≤ zml y' ∧ σ' 0 0 ≤ r'.2 0 0 ∧ kn pc' ls' (zpush k c2 n2 r'.1 st') r'.2 = some r) (RT : r.2 = σ → decode b off = .ok (zrins (zkindOf ret), 1) → zvoks w (σ 0 0) (zpush (zkindOf ret) (zrtP y).1 (zrtP y).2 r.1 []) → zrng (zkindOf ret) r.1 → W p l e R s m args below meth c H locs (σ 0 0 - n0).toNat (zsl w (σ 0 0) - zsl w n0) Q (F0 m off lsC ((zpush (zkindOf ret) (zrtP y).1 (zrtP y).2 r.1 []).map (zcv ad v0)))) : W p l e R s m args below meth c H locs (σ 0 0 - n0).toNat (zsl w (σ 0 0) - zsl w n0) Q (F0 m off lsC (st.map (zcv ad v0))) := by
  have S := zST_of C G
  have N := zNX_of K G
  have hv := G.2.1
  have hlen := G.2.2.2.2.2.2.2.2.2
  have hd := Hd
  have ho := Ho
  exact zp_lshl S N (hd rfl) (ho rfl) h
set_option maxRecDepth 100000 in
theorem zz_lushr  (Hd : Nat.beq (zfalls (.lushr)) 2 = false → decode b off = .ok ((.lushr), zlenf (.lushr))) (Ho : zfalls (.lushr) = 0 → zoff cd (j + 1) = off + zlenf (.lushr)) {len : Nat} (hd0 : decode b off = .ok ((.lushr), len)) (hax : zaux cd y own ret ini (off, (.lushr), an, az) = true) (hxt : zxtra (off, (.lushr), an, az) = true) (h : zstp zarR ph (zK w) (zR w) zrd zup zcp kn kc (fun x m => some (x, m)) none j ls st σ ((.lushr)) an az = some r) (C : zCx p s m args c b nL own D B0) (G : zGd meth ini w D B0 v0 ph s nL n0 ad0 ad ca σ H locs lsC ls st) (K : zKt0 p l e R s m args below meth c Q w D B0 v0 ph cd nL n0 ad0 r kn) (HR : zRm R w n0 d r) (ge : ∀ j ls st σ', kn j ls st σ' = some r → σ' 0 0 ≤ r.2 0 0) (KC : ∀ y' as σ' k c2 n2 pc' ls' st', kc y' as σ' k c2 n2 pc' ls' st' = some r → ∃ d' r', d = d' + 1 ∧ zMet l w D B0 v0 ph d' y' as σ' r' ∧ (zspread as).length ≤ zml y' ∧ σ' 0 0 ≤ r'.2 0 0 ∧ kn pc' ls' (zpush k c2 n2 r'.1 st') r'.2 = some r) (RT : r.2 = σ → decode b off = .ok (zrins (zkindOf ret), 1) → zvoks w (σ 0 0) (zpush (zkindOf ret) (zrtP y).1 (zrtP y).2 r.1 []) → zrng (zkindOf ret) r.1 → W p l e R s m args below meth c H locs (σ 0 0 - n0).toNat (zsl w (σ 0 0) - zsl w n0) Q (F0 m off lsC ((zpush (zkindOf ret) (zrtP y).1 (zrtP y).2 r.1 []).map (zcv ad v0)))) : W p l e R s m args below meth c H locs (σ 0 0 - n0).toNat (zsl w (σ 0 0) - zsl w n0) Q (F0 m off lsC (st.map (zcv ad v0))) := by
  have S := zST_of C G
  have N := zNX_of K G
  have hv := G.2.1
  have hlen := G.2.2.2.2.2.2.2.2.2
  have hd := Hd
  have ho := Ho
  have hd := hd rfl
  have ho := ho rfl
  have h1 : zji none st (fun x y st' => kn (j + 1) ls (zJ (zarR 21 x y) :: st') σ) = some r := h
  simp only [zar_21] at h1
  exact zp_lushr S N hd ho h1
set_option maxRecDepth 100000 in
theorem zz_lcmp  (Hd : Nat.beq (zfalls (.lcmp)) 2 = false → decode b off = .ok ((.lcmp), zlenf (.lcmp))) (Ho : zfalls (.lcmp) = 0 → zoff cd (j + 1) = off + zlenf (.lcmp)) {len : Nat} (hd0 : decode b off = .ok ((.lcmp), len)) (hax : zaux cd y own ret ini (off, (.lcmp), an, az) = true) (hxt : zxtra (off, (.lcmp), an, az) = true) (h : zstp zarR ph (zK w) (zR w) zrd zup zcp kn kc (fun x m => some (x, m)) none j ls st σ ((.lcmp)) an az = some r) (C : zCx p s m args c b nL own D B0) (G : zGd meth ini w D B0 v0 ph s nL n0 ad0 ad ca σ H locs lsC ls st) (K : zKt0 p l e R s m args below meth c Q w D B0 v0 ph cd nL n0 ad0 r kn) (HR : zRm R w n0 d r) (ge : ∀ j ls st σ', kn j ls st σ' = some r → σ' 0 0 ≤ r.2 0 0) (KC : ∀ y' as σ' k c2 n2 pc' ls' st', kc y' as σ' k c2 n2 pc' ls' st' = some r → ∃ d' r', d = d' + 1 ∧ zMet l w D B0 v0 ph d' y' as σ' r' ∧ (zspread as).length ≤ zml y' ∧ σ' 0 0 ≤ r'.2 0 0 ∧ kn pc' ls' (zpush k c2 n2 r'.1 st') r'.2 = some r) (RT : r.2 = σ → decode b off = .ok (zrins (zkindOf ret), 1) → zvoks w (σ 0 0) (zpush (zkindOf ret) (zrtP y).1 (zrtP y).2 r.1 []) → zrng (zkindOf ret) r.1 → W p l e R s m args below meth c H locs (σ 0 0 - n0).toNat (zsl w (σ 0 0) - zsl w n0) Q (F0 m off lsC ((zpush (zkindOf ret) (zrtP y).1 (zrtP y).2 r.1 []).map (zcv ad v0)))) : W p l e R s m args below meth c H locs (σ 0 0 - n0).toNat (zsl w (σ 0 0) - zsl w n0) Q (F0 m off lsC (st.map (zcv ad v0))) := by
  have S := zST_of C G
  have N := zNX_of K G
  have hv := G.2.1
  have hlen := G.2.2.2.2.2.2.2.2.2
  have hd := Hd
  have ho := Ho
  exact zp_lcmp S N (hd rfl) (ho rfl) h
set_option maxRecDepth 100000 in
theorem zz_ineg  (Hd : Nat.beq (zfalls (.ineg)) 2 = false → decode b off = .ok ((.ineg), zlenf (.ineg))) (Ho : zfalls (.ineg) = 0 → zoff cd (j + 1) = off + zlenf (.ineg)) {len : Nat} (hd0 : decode b off = .ok ((.ineg), len)) (hax : zaux cd y own ret ini (off, (.ineg), an, az) = true) (hxt : zxtra (off, (.ineg), an, az) = true) (h : zstp zarR ph (zK w) (zR w) zrd zup zcp kn kc (fun x m => some (x, m)) none j ls st σ ((.ineg)) an az = some r) (C : zCx p s m args c b nL own D B0) (G : zGd meth ini w D B0 v0 ph s nL n0 ad0 ad ca σ H locs lsC ls st) (K : zKt0 p l e R s m args below meth c Q w D B0 v0 ph cd nL n0 ad0 r kn) (HR : zRm R w n0 d r) (ge : ∀ j ls st σ', kn j ls st σ' = some r → σ' 0 0 ≤ r.2 0 0) (KC : ∀ y' as σ' k c2 n2 pc' ls' st', kc y' as σ' k c2 n2 pc' ls' st' = some r → ∃ d' r', d = d' + 1 ∧ zMet l w D B0 v0 ph d' y' as σ' r' ∧ (zspread as).length ≤ zml y' ∧ σ' 0 0 ≤ r'.2 0 0 ∧ kn pc' ls' (zpush k c2 n2 r'.1 st') r'.2 = some r) (RT : r.2 = σ → decode b off = .ok (zrins (zkindOf ret), 1) → zvoks w (σ 0 0) (zpush (zkindOf ret) (zrtP y).1 (zrtP y).2 r.1 []) → zrng (zkindOf ret) r.1 → W p l e R s m args below meth c H locs (σ 0 0 - n0).toNat (zsl w (σ 0 0) - zsl w n0) Q (F0 m off lsC ((zpush (zkindOf ret) (zrtP y).1 (zrtP y).2 r.1 []).map (zcv ad v0)))) : W p l e R s m args below meth c H locs (σ 0 0 - n0).toNat (zsl w (σ 0 0) - zsl w n0) Q (F0 m off lsC (st.map (zcv ad v0))) := by
  have S := zST_of C G
  have N := zNX_of K G
  have hv := G.2.1
  have hlen := G.2.2.2.2.2.2.2.2.2
  have hd := Hd
  have ho := Ho
  exact zp_ineg S N (hd rfl) (ho rfl) h
set_option maxRecDepth 100000 in
theorem zz_lneg  (Hd : Nat.beq (zfalls (.lneg)) 2 = false → decode b off = .ok ((.lneg), zlenf (.lneg))) (Ho : zfalls (.lneg) = 0 → zoff cd (j + 1) = off + zlenf (.lneg)) {len : Nat} (hd0 : decode b off = .ok ((.lneg), len)) (hax : zaux cd y own ret ini (off, (.lneg), an, az) = true) (hxt : zxtra (off, (.lneg), an, az) = true) (h : zstp zarR ph (zK w) (zR w) zrd zup zcp kn kc (fun x m => some (x, m)) none j ls st σ ((.lneg)) an az = some r) (C : zCx p s m args c b nL own D B0) (G : zGd meth ini w D B0 v0 ph s nL n0 ad0 ad ca σ H locs lsC ls st) (K : zKt0 p l e R s m args below meth c Q w D B0 v0 ph cd nL n0 ad0 r kn) (HR : zRm R w n0 d r) (ge : ∀ j ls st σ', kn j ls st σ' = some r → σ' 0 0 ≤ r.2 0 0) (KC : ∀ y' as σ' k c2 n2 pc' ls' st', kc y' as σ' k c2 n2 pc' ls' st' = some r → ∃ d' r', d = d' + 1 ∧ zMet l w D B0 v0 ph d' y' as σ' r' ∧ (zspread as).length ≤ zml y' ∧ σ' 0 0 ≤ r'.2 0 0 ∧ kn pc' ls' (zpush k c2 n2 r'.1 st') r'.2 = some r) (RT : r.2 = σ → decode b off = .ok (zrins (zkindOf ret), 1) → zvoks w (σ 0 0) (zpush (zkindOf ret) (zrtP y).1 (zrtP y).2 r.1 []) → zrng (zkindOf ret) r.1 → W p l e R s m args below meth c H locs (σ 0 0 - n0).toNat (zsl w (σ 0 0) - zsl w n0) Q (F0 m off lsC ((zpush (zkindOf ret) (zrtP y).1 (zrtP y).2 r.1 []).map (zcv ad v0)))) : W p l e R s m args below meth c H locs (σ 0 0 - n0).toNat (zsl w (σ 0 0) - zsl w n0) Q (F0 m off lsC (st.map (zcv ad v0))) := by
  have S := zST_of C G
  have N := zNX_of K G
  have hv := G.2.1
  have hlen := G.2.2.2.2.2.2.2.2.2
  have hd := Hd
  have ho := Ho
  exact zp_lneg S N (hd rfl) (ho rfl) h
set_option maxRecDepth 100000 in
theorem zz_i2l  (Hd : Nat.beq (zfalls (.i2l)) 2 = false → decode b off = .ok ((.i2l), zlenf (.i2l))) (Ho : zfalls (.i2l) = 0 → zoff cd (j + 1) = off + zlenf (.i2l)) {len : Nat} (hd0 : decode b off = .ok ((.i2l), len)) (hax : zaux cd y own ret ini (off, (.i2l), an, az) = true) (hxt : zxtra (off, (.i2l), an, az) = true) (h : zstp zarR ph (zK w) (zR w) zrd zup zcp kn kc (fun x m => some (x, m)) none j ls st σ ((.i2l)) an az = some r) (C : zCx p s m args c b nL own D B0) (G : zGd meth ini w D B0 v0 ph s nL n0 ad0 ad ca σ H locs lsC ls st) (K : zKt0 p l e R s m args below meth c Q w D B0 v0 ph cd nL n0 ad0 r kn) (HR : zRm R w n0 d r) (ge : ∀ j ls st σ', kn j ls st σ' = some r → σ' 0 0 ≤ r.2 0 0) (KC : ∀ y' as σ' k c2 n2 pc' ls' st', kc y' as σ' k c2 n2 pc' ls' st' = some r → ∃ d' r', d = d' + 1 ∧ zMet l w D B0 v0 ph d' y' as σ' r' ∧ (zspread as).length ≤ zml y' ∧ σ' 0 0 ≤ r'.2 0 0 ∧ kn pc' ls' (zpush k c2 n2 r'.1 st') r'.2 = some r) (RT : r.2 = σ → decode b off = .ok (zrins (zkindOf ret), 1) → zvoks w (σ 0 0) (zpush (zkindOf ret) (zrtP y).1 (zrtP y).2 r.1 []) → zrng (zkindOf ret) r.1 → W p l e R s m args below meth c H locs (σ 0 0 - n0).toNat (zsl w (σ 0 0) - zsl w n0) Q (F0 m off lsC ((zpush (zkindOf ret) (zrtP y).1 (zrtP y).2 r.1 []).map (zcv ad v0)))) : W p l e R s m args below meth c H locs (σ 0 0 - n0).toNat (zsl w (σ 0 0) - zsl w n0) Q (F0 m off lsC (st.map (zcv ad v0))) := by
  have S := zST_of C G
  have N := zNX_of K G
  have hv := G.2.1
  have hlen := G.2.2.2.2.2.2.2.2.2
  have hd := Hd
  have ho := Ho
  exact zp_i2l S N (hd rfl) (ho rfl) h
set_option maxRecDepth 100000 in
theorem zz_l2i  (Hd : Nat.beq (zfalls (.l2i)) 2 = false → decode b off = .ok ((.l2i), zlenf (.l2i))) (Ho : zfalls (.l2i) = 0 → zoff cd (j + 1) = off + zlenf (.l2i)) {len : Nat} (hd0 : decode b off = .ok ((.l2i), len)) (hax : zaux cd y own ret ini (off, (.l2i), an, az) = true) (hxt : zxtra (off, (.l2i), an, az) = true) (h : zstp zarR ph (zK w) (zR w) zrd zup zcp kn kc (fun x m => some (x, m)) none j ls st σ ((.l2i)) an az = some r) (C : zCx p s m args c b nL own D B0) (G : zGd meth ini w D B0 v0 ph s nL n0 ad0 ad ca σ H locs lsC ls st) (K : zKt0 p l e R s m args below meth c Q w D B0 v0 ph cd nL n0 ad0 r kn) (HR : zRm R w n0 d r) (ge : ∀ j ls st σ', kn j ls st σ' = some r → σ' 0 0 ≤ r.2 0 0) (KC : ∀ y' as σ' k c2 n2 pc' ls' st', kc y' as σ' k c2 n2 pc' ls' st' = some r → ∃ d' r', d = d' + 1 ∧ zMet l w D B0 v0 ph d' y' as σ' r' ∧ (zspread as).length ≤ zml y' ∧ σ' 0 0 ≤ r'.2 0 0 ∧ kn pc' ls' (zpush k c2 n2 r'.1 st') r'.2 = some r) (RT : r.2 = σ → decode b off = .ok (zrins (zkindOf ret), 1) → zvoks w (σ 0 0) (zpush (zkindOf ret) (zrtP y).1 (zrtP y).2 r.1 []) → zrng (zkindOf ret) r.1 → W p l e R s m args below meth c H locs (σ 0 0 - n0).toNat (zsl w (σ 0 0) - zsl w n0) Q (F0 m off lsC ((zpush (zkindOf ret) (zrtP y).1 (zrtP y).2 r.1 []).map (zcv ad v0)))) : W p l e R s m args below meth c H locs (σ 0 0 - n0).toNat (zsl w (σ 0 0) - zsl w n0) Q (F0 m off lsC (st.map (zcv ad v0))) := by
  have S := zST_of C G
  have N := zNX_of K G
  have hv := G.2.1
  have hlen := G.2.2.2.2.2.2.2.2.2
  have hd := Hd
  have ho := Ho
  exact zp_l2i S N (hd rfl) (ho rfl) h
set_option maxRecDepth 100000 in
theorem zz_i2b  (Hd : Nat.beq (zfalls (.i2b)) 2 = false → decode b off = .ok ((.i2b), zlenf (.i2b))) (Ho : zfalls (.i2b) = 0 → zoff cd (j + 1) = off + zlenf (.i2b)) {len : Nat} (hd0 : decode b off = .ok ((.i2b), len)) (hax : zaux cd y own ret ini (off, (.i2b), an, az) = true) (hxt : zxtra (off, (.i2b), an, az) = true) (h : zstp zarR ph (zK w) (zR w) zrd zup zcp kn kc (fun x m => some (x, m)) none j ls st σ ((.i2b)) an az = some r) (C : zCx p s m args c b nL own D B0) (G : zGd meth ini w D B0 v0 ph s nL n0 ad0 ad ca σ H locs lsC ls st) (K : zKt0 p l e R s m args below meth c Q w D B0 v0 ph cd nL n0 ad0 r kn) (HR : zRm R w n0 d r) (ge : ∀ j ls st σ', kn j ls st σ' = some r → σ' 0 0 ≤ r.2 0 0) (KC : ∀ y' as σ' k c2 n2 pc' ls' st', kc y' as σ' k c2 n2 pc' ls' st' = some r → ∃ d' r', d = d' + 1 ∧ zMet l w D B0 v0 ph d' y' as σ' r' ∧ (zspread as).length ≤ zml y' ∧ σ' 0 0 ≤ r'.2 0 0 ∧ kn pc' ls' (zpush k c2 n2 r'.1 st') r'.2 = some r) (RT : r.2 = σ → decode b off = .ok (zrins (zkindOf ret), 1) → zvoks w (σ 0 0) (zpush (zkindOf ret) (zrtP y).1 (zrtP y).2 r.1 []) → zrng (zkindOf ret) r.1 → W p l e R s m args below meth c H locs (σ 0 0 - n0).toNat (zsl w (σ 0 0) - zsl w n0) Q (F0 m off lsC ((zpush (zkindOf ret) (zrtP y).1 (zrtP y).2 r.1 []).map (zcv ad v0)))) : W p l e R s m args below meth c H locs (σ 0 0 - n0).toNat (zsl w (σ 0 0) - zsl w n0) Q (F0 m off lsC (st.map (zcv ad v0))) := by
  have S := zST_of C G
  have N := zNX_of K G
  have hv := G.2.1
  have hlen := G.2.2.2.2.2.2.2.2.2
  have hd := Hd
  have ho := Ho
  exact zp_i2b S N (hd rfl) (ho rfl) h
set_option maxRecDepth 100000 in
theorem zz_i2s  (Hd : Nat.beq (zfalls (.i2s)) 2 = false → decode b off = .ok ((.i2s), zlenf (.i2s))) (Ho : zfalls (.i2s) = 0 → zoff cd (j + 1) = off + zlenf (.i2s)) {len : Nat} (hd0 : decode b off = .ok ((.i2s), len)) (hax : zaux cd y own ret ini (off, (.i2s), an, az) = true) (hxt : zxtra (off, (.i2s), an, az) = true) (h : zstp zarR ph (zK w) (zR w) zrd zup zcp kn kc (fun x m => some (x, m)) none j ls st σ ((.i2s)) an az = some r) (C : zCx p s m args c b nL own D B0) (G : zGd meth ini w D B0 v0 ph s nL n0 ad0 ad ca σ H locs lsC ls st) (K : zKt0 p l e R s m args below meth c Q w D B0 v0 ph cd nL n0 ad0 r kn) (HR : zRm R w n0 d r) (ge : ∀ j ls st σ', kn j ls st σ' = some r → σ' 0 0 ≤ r.2 0 0) (KC : ∀ y' as σ' k c2 n2 pc' ls' st', kc y' as σ' k c2 n2 pc' ls' st' = some r → ∃ d' r', d = d' + 1 ∧ zMet l w D B0 v0 ph d' y' as σ' r' ∧ (zspread as).length ≤ zml y' ∧ σ' 0 0 ≤ r'.2 0 0 ∧ kn pc' ls' (zpush k c2 n2 r'.1 st') r'.2 = some r) (RT : r.2 = σ → decode b off = .ok (zrins (zkindOf ret), 1) → zvoks w (σ 0 0) (zpush (zkindOf ret) (zrtP y).1 (zrtP y).2 r.1 []) → zrng (zkindOf ret) r.1 → W p l e R s m args below meth c H locs (σ 0 0 - n0).toNat (zsl w (σ 0 0) - zsl w n0) Q (F0 m off lsC ((zpush (zkindOf ret) (zrtP y).1 (zrtP y).2 r.1 []).map (zcv ad v0)))) : W p l e R s m args below meth c H locs (σ 0 0 - n0).toNat (zsl w (σ 0 0) - zsl w n0) Q (F0 m off lsC (st.map (zcv ad v0))) := by
  have S := zST_of C G
  have N := zNX_of K G
  have hv := G.2.1
  have hlen := G.2.2.2.2.2.2.2.2.2
  have hd := Hd
  have ho := Ho
  exact zp_i2s S N (hd rfl) (ho rfl) h
set_option maxRecDepth 100000 in
theorem zz_i2c  (Hd : Nat.beq (zfalls (.i2c)) 2 = false → decode b off = .ok ((.i2c), zlenf (.i2c))) (Ho : zfalls (.i2c) = 0 → zoff cd (j + 1) = off + zlenf (.i2c)) {len : Nat} (hd0 : decode b off = .ok ((.i2c), len)) (hax : zaux cd y own ret ini (off, (.i2c), an, az) = true) (hxt : zxtra (off, (.i2c), an, az) = true) (h : zstp zarR ph (zK w) (zR w) zrd zup zcp kn kc (fun x m => some (x, m)) none j ls st σ ((.i2c)) an az = some r) (C : zCx p s m args c b nL own D B0) (G : zGd meth ini w D B0 v0 ph s nL n0 ad0 ad ca σ H locs lsC ls st) (K : zKt0 p l e R s m args below meth c Q w D B0 v0 ph cd nL n0 ad0 r kn) (HR : zRm R w n0 d r) (ge : ∀ j ls st σ', kn j ls st σ' = some r → σ' 0 0 ≤ r.2 0 0) (KC : ∀ y' as σ' k c2 n2 pc' ls' st', kc y' as σ' k c2 n2 pc' ls' st' = some r → ∃ d' r', d = d' + 1 ∧ zMet l w D B0 v0 ph d' y' as σ' r' ∧ (zspread as).length ≤ zml y' ∧ σ' 0 0 ≤ r'.2 0 0 ∧ kn pc' ls' (zpush k c2 n2 r'.1 st') r'.2 = some r) (RT : r.2 = σ → decode b off = .ok (zrins (zkindOf ret), 1) → zvoks w (σ 0 0) (zpush (zkindOf ret) (zrtP y).1 (zrtP y).2 r.1 []) → zrng (zkindOf ret) r.1 → W p l e R s m args below meth c H locs (σ 0 0 - n0).toNat (zsl w (σ 0 0) - zsl w n0) Q (F0 m off lsC ((zpush (zkindOf ret) (zrtP y).1 (zrtP y).2 r.1 []).map (zcv ad v0)))) : W p l e R s m args below meth c H locs (σ 0 0 - n0).toNat (zsl w (σ 0 0) - zsl w n0) Q (F0 m off lsC (st.map (zcv ad v0))) := by
  have S := zST_of C G
  have N := zNX_of K G
  have hv := G.2.1
  have hlen := G.2.2.2.2.2.2.2.2.2
  have hd := Hd
  have ho := Ho
  exact zp_i2c S N (hd rfl) (ho rfl) h
set_option maxRecDepth 100000 in
theorem zz_iconst {n : Int} (Hd : Nat.beq (zfalls (.iconst n)) 2 = false → decode b off = .ok ((.iconst n), zlenf (.iconst n))) (Ho : zfalls (.iconst n) = 0 → zoff cd (j + 1) = off + zlenf (.iconst n)) {len : Nat} (hd0 : decode b off = .ok ((.iconst n), len)) (hax : zaux cd y own ret ini (off, (.iconst n), an, az) = true) (hxt : zxtra (off, (.iconst n), an, az) = true) (h : zstp zarR ph (zK w) (zR w) zrd zup zcp kn kc (fun x m => some (x, m)) none j ls st σ ((.iconst n)) an az = some r) (C : zCx p s m args c b nL own D B0) (G : zGd meth ini w D B0 v0 ph s nL n0 ad0 ad ca σ H locs lsC ls st) (K : zKt0 p l e R s m args below meth c Q w D B0 v0 ph cd nL n0 ad0 r kn) (HR : zRm R w n0 d r) (ge : ∀ j ls st σ', kn j ls st σ' = some r → σ' 0 0 ≤ r.2 0 0) (KC : ∀ y' as σ' k c2 n2 pc' ls' st', kc y' as σ' k c2 n2 pc' ls' st' = some r → ∃ d' r', d = d' + 1 ∧ zMet l w D B0 v0 ph d' y' as σ' r' ∧ (zspread as).length ≤ zml y' ∧ σ' 0 0 ≤ r'.2 0 0 ∧ kn pc' ls' (zpush k c2 n2 r'.1 st') r'.2 = some r) (RT : r.2 = σ → decode b off = .ok (zrins (zkindOf ret), 1) → zvoks w (σ 0 0) (zpush (zkindOf ret) (zrtP y).1 (zrtP y).2 r.1 []) → zrng (zkindOf ret) r.1 → W p l e R s m args below meth c H locs (σ 0 0 - n0).toNat (zsl w (σ 0 0) - zsl w n0) Q (F0 m off lsC ((zpush (zkindOf ret) (zrtP y).1 (zrtP y).2 r.1 []).map (zcv ad v0)))) : W p l e R s m args below meth c H locs (σ 0 0 - n0).toNat (zsl w (σ 0 0) - zsl w n0) Q (F0 m off lsC (st.map (zcv ad v0))) := by
  have S := zST_of C G
  have N := zNX_of K G
  have hv := G.2.1
  have hlen := G.2.2.2.2.2.2.2.2.2
  have hd := Hd
  have ho := Ho
  exact zp_iconst S N (hd rfl) (ho rfl) (of_decide_eq_true hax) h
set_option maxRecDepth 100000 in
theorem zz_bipush {n : Int} (Hd : Nat.beq (zfalls (.bipush n)) 2 = false → decode b off = .ok ((.bipush n), zlenf (.bipush n))) (Ho : zfalls (.bipush n) = 0 → zoff cd (j + 1) = off + zlenf (.bipush n)) {len : Nat} (hd0 : decode b off = .ok ((.bipush n), len)) (hax : zaux cd y own ret ini (off, (.bipush n), an, az) = true) (hxt : zxtra (off, (.bipush n), an, az) = true) (h : zstp zarR ph (zK w) (zR w) zrd zup zcp kn kc (fun x m => some (x, m)) none j ls st σ ((.bipush n)) an az = some r) (C : zCx p s m args c b nL own D B0) (G : zGd meth ini w D B0 v0 ph s nL n0 ad0 ad ca σ H locs lsC ls st) (K : zKt0 p l e R s m args below meth c Q w D B0 v0 ph cd nL n0 ad0 r kn) (HR : zRm R w n0 d r) (ge : ∀ j ls st σ', kn j ls st σ' = some r → σ' 0 0 ≤ r.2 0 0) (KC : ∀ y' as σ' k c2 n2 pc' ls' st', kc y' as σ' k c2 n2 pc' ls' st' = some r → ∃ d' r', d = d' + 1 ∧ zMet l w D B0 v0 ph d' y' as σ' r' ∧ (zspread as).length ≤ zml y' ∧ σ' 0 0 ≤ r'.2 0 0 ∧ kn pc' ls' (zpush k c2 n2 r'.1 st') r'.2 = some r) (RT : r.2 = σ → decode b off = .ok (zrins (zkindOf ret), 1) → zvoks w (σ 0 0) (zpush (zkindOf ret) (zrtP y).1 (zrtP y).2 r.1 []) → zrng (zkindOf ret) r.1 → W p l e R s m args below meth c H locs (σ 0 0 - n0).toNat (zsl w (σ 0 0) - zsl w n0) Q (F0 m off lsC ((zpush (zkindOf ret) (zrtP y).1 (zrtP y).2 r.1 []).map (zcv ad v0)))) : W p l e R s m args below meth c H locs (σ 0 0 - n0).toNat (zsl w (σ 0 0) - zsl w n0) Q (F0 m off lsC (st.map (zcv ad v0))) := by
  have S := zST_of C G
  have N := zNX_of K G
  have hv := G.2.1
  have hlen := G.2.2.2.2.2.2.2.2.2
  have hd := Hd
  have ho := Ho
  exact zp_bipush S N (hd rfl) (ho rfl) (of_decide_eq_true hax) h
set_option maxRecDepth 100000 in
theorem zz_sipush {n : Int} (Hd : Nat.beq (zfalls (.sipush n)) 2 = false → decode b off = .ok ((.sipush n), zlenf (.sipush n))) (Ho : zfalls (.sipush n) = 0 → zoff cd (j + 1) = off + zlenf (.sipush n)) {len : Nat} (hd0 : decode b off = .ok ((.sipush n), len)) (hax : zaux cd y own ret ini (off, (.sipush n), an, az) = true) (hxt : zxtra (off, (.sipush n), an, az) = true) (h : zstp zarR ph (zK w) (zR w) zrd zup zcp kn kc (fun x m => some (x, m)) none j ls st σ ((.sipush n)) an az = some r) (C : zCx p s m args c b nL own D B0) (G : zGd meth ini w D B0 v0 ph s nL n0 ad0 ad ca σ H locs lsC ls st) (K : zKt0 p l e R s m args below meth c Q w D B0 v0 ph cd nL n0 ad0 r kn) (HR : zRm R w n0 d r) (ge : ∀ j ls st σ', kn j ls st σ' = some r → σ' 0 0 ≤ r.2 0 0) (KC : ∀ y' as σ' k c2 n2 pc' ls' st', kc y' as σ' k c2 n2 pc' ls' st' = some r → ∃ d' r', d = d' + 1 ∧ zMet l w D B0 v0 ph d' y' as σ' r' ∧ (zspread as).length ≤ zml y' ∧ σ' 0 0 ≤ r'.2 0 0 ∧ kn pc' ls' (zpush k c2 n2 r'.1 st') r'.2 = some r) (RT : r.2 = σ → decode b off = .ok (zrins (zkindOf ret), 1) → zvoks w (σ 0 0) (zpush (zkindOf ret) (zrtP y).1 (zrtP y).2 r.1 []) → zrng (zkindOf ret) r.1 → W p l e R s m args below meth c H locs (σ 0 0 - n0).toNat (zsl w (σ 0 0) - zsl w n0) Q (F0 m off lsC ((zpush (zkindOf ret) (zrtP y).1 (zrtP y).2 r.1 []).map (zcv ad v0)))) : W p l e R s m args below meth c H locs (σ 0 0 - n0).toNat (zsl w (σ 0 0) - zsl w n0) Q (F0 m off lsC (st.map (zcv ad v0))) := by
  have S := zST_of C G
  have N := zNX_of K G
  have hv := G.2.1
  have hlen := G.2.2.2.2.2.2.2.2.2
  have hd := Hd
  have ho := Ho
  exact zp_sipush S N (hd rfl) (ho rfl) (of_decide_eq_true hax) h
set_option maxRecDepth 100000 in
theorem zz_lconst {n : Fin 2} (Hd : Nat.beq (zfalls (.lconst n)) 2 = false → decode b off = .ok ((.lconst n), zlenf (.lconst n))) (Ho : zfalls (.lconst n) = 0 → zoff cd (j + 1) = off + zlenf (.lconst n)) {len : Nat} (hd0 : decode b off = .ok ((.lconst n), len)) (hax : zaux cd y own ret ini (off, (.lconst n), an, az) = true) (hxt : zxtra (off, (.lconst n), an, az) = true) (h : zstp zarR ph (zK w) (zR w) zrd zup zcp kn kc (fun x m => some (x, m)) none j ls st σ ((.lconst n)) an az = some r) (C : zCx p s m args c b nL own D B0) (G : zGd meth ini w D B0 v0 ph s nL n0 ad0 ad ca σ H locs lsC ls st) (K : zKt0 p l e R s m args below meth c Q w D B0 v0 ph cd nL n0 ad0 r kn) (HR : zRm R w n0 d r) (ge : ∀ j ls st σ', kn j ls st σ' = some r → σ' 0 0 ≤ r.2 0 0) (KC : ∀ y' as σ' k c2 n2 pc' ls' st', kc y' as σ' k c2 n2 pc' ls' st' = some r → ∃ d' r', d = d' + 1 ∧ zMet l w D B0 v0 ph d' y' as σ' r' ∧ (zspread as).length ≤ zml y' ∧ σ' 0 0 ≤ r'.2 0 0 ∧ kn pc' ls' (zpush k c2 n2 r'.1 st') r'.2 = some r) (RT : r.2 = σ → decode b off = .ok (zrins (zkindOf ret), 1) → zvoks w (σ 0 0) (zpush (zkindOf ret) (zrtP y).1 (zrtP y).2 r.1 []) → zrng (zkindOf ret) r.1 → W p l e R s m args below meth c H locs (σ 0 0 - n0).toNat (zsl w (σ 0 0) - zsl w n0) Q (F0 m off lsC ((zpush (zkindOf ret) (zrtP y).1 (zrtP y).2 r.1 []).map (zcv ad v0)))) : W p l e R s m args below meth c H locs (σ 0 0 - n0).toNat (zsl w (σ 0 0) - zsl w n0) Q (F0 m off lsC (st.map (zcv ad v0))) := by
  have S := zST_of C G
  have N := zNX_of K G
  have hv := G.2.1
  have hlen := G.2.2.2.2.2.2.2.2.2
  have hd := Hd
  have ho := Ho
  have hd := hd rfl
  have ho := ho rfl
  have hn : n = 0 ∨ n = 1 := by omega
  rcases hn with rfl | rfl
  · exact zp_lconst0 S N hd ho h
  · exact zp_lconst1 S N hd ho h
set_option maxRecDepth 100000 in
theorem zz_iload {n : Nat} (Hd : Nat.beq (zfalls (.iload n)) 2 = false → decode b off = .ok ((.iload n), zlenf (.iload n))) (Ho : zfalls (.iload n) = 0 → zoff cd (j + 1) = off + zlenf (.iload n)) {len : Nat} (hd0 : decode b off = .ok ((.iload n), len)) (hax : zaux cd y own ret ini (off, (.iload n), an, az) = true) (hxt : zxtra (off, (.iload n), an, az) = true) (h : zstp zarR ph (zK w) (zR w) zrd zup zcp kn kc (fun x m => some (x, m)) none j ls st σ ((.iload n)) an az = some r) (C : zCx p s m args c b nL own D B0) (G : zGd meth ini w D B0 v0 ph s nL n0 ad0 ad ca σ H locs lsC ls st) (K : zKt0 p l e R s m args below meth c Q w D B0 v0 ph cd nL n0 ad0 r kn) (HR : zRm R w n0 d r) (ge : ∀ j ls st σ', kn j ls st σ' = some r → σ' 0 0 ≤ r.2 0 0) (KC : ∀ y' as σ' k c2 n2 pc' ls' st', kc y' as σ' k c2 n2 pc' ls' st' = some r → ∃ d' r', d = d' + 1 ∧ zMet l w D B0 v0 ph d' y' as σ' r' ∧ (zspread as).length ≤ zml y' ∧ σ' 0 0 ≤ r'.2 0 0 ∧ kn pc' ls' (zpush k c2 n2 r'.1 st') r'.2 = some r) (RT : r.2 = σ → decode b off = .ok (zrins (zkindOf ret), 1) → zvoks w (σ 0 0) (zpush (zkindOf ret) (zrtP y).1 (zrtP y).2 r.1 []) → zrng (zkindOf ret) r.1 → W p l e R s m args below meth c H locs (σ 0 0 - n0).toNat (zsl w (σ 0 0) - zsl w n0) Q (F0 m off lsC ((zpush (zkindOf ret) (zrtP y).1 (zrtP y).2 r.1 []).map (zcv ad v0)))) : W p l e R s m args below meth c H locs (σ 0 0 - n0).toNat (zsl w (σ 0 0) - zsl w n0) Q (F0 m off lsC (st.map (zcv ad v0))) := by
  have S := zST_of C G
  have N := zNX_of K G
  have hv := G.2.1
  have hlen := G.2.2.2.2.2.2.2.2.2
  have hd := Hd
  have ho := Ho
  dsimp only [zstp] at h
  have hd := hd rfl
  have ho := ho rfl
  cases hz : znth ls n with
  | none => rw [hz] at h; cases h
  | some v =>
    rw [hz] at h
    rcases v with x | (x | (⟨x, x2, x3⟩ | x)) <;> first | (cases h; done) | exact zp_iload S N hd ho hz h
set_option maxRecDepth 100000 in
theorem zz_iload_n {n : Fin 4} (Hd : Nat.beq (zfalls (.iload_n n)) 2 = false → decode b off = .ok ((.iload_n n), zlenf (.iload_n n))) (Ho : zfalls (.iload_n n) = 0 → zoff cd (j + 1) = off + zlenf (.iload_n n)) {len : Nat} (hd0 : decode b off = .ok ((.iload_n n), len)) (hax : zaux cd y own ret ini (off, (.iload_n n), an, az) = true) (hxt : zxtra (off, (.iload_n n), an, az) = true) (h : zstp zarR ph (zK w) (zR w) zrd zup zcp kn kc (fun x m => some (x, m)) none j ls st σ ((.iload_n n)) an az = some r) (C : zCx p s m args c b nL own D B0) (G : zGd meth ini w D B0 v0 ph s nL n0 ad0 ad ca σ H locs lsC ls st) (K : zKt0 p l e R s m args below meth c Q w D B0 v0 ph cd nL n0 ad0 r kn) (HR : zRm R w n0 d r) (ge : ∀ j ls st σ', kn j ls st σ' = some r → σ' 0 0 ≤ r.2 0 0) (KC : ∀ y' as σ' k c2 n2 pc' ls' st', kc y' as σ' k c2 n2 pc' ls' st' = some r → ∃ d' r', d = d' + 1 ∧ zMet l w D B0 v0 ph d' y' as σ' r' ∧ (zspread as).length ≤ zml y' ∧ σ' 0 0 ≤ r'.2 0 0 ∧ kn pc' ls' (zpush k c2 n2 r'.1 st') r'.2 = some r) (RT : r.2 = σ → decode b off = .ok (zrins (zkindOf ret), 1) → zvoks w (σ 0 0) (zpush (zkindOf ret) (zrtP y).1 (zrtP y).2 r.1 []) → zrng (zkindOf ret) r.1 → W p l e R s m args below meth c H locs (σ 0 0 - n0).toNat (zsl w (σ 0 0) - zsl w n0) Q (F0 m off lsC ((zpush (zkindOf ret) (zrtP y).1 (zrtP y).2 r.1 []).map (zcv ad v0)))) : W p l e R s m args below meth c H locs (σ 0 0 - n0).toNat (zsl w (σ 0 0) - zsl w n0) Q (F0 m off lsC (st.map (zcv ad v0))) := by
  have S := zST_of C G
  have N := zNX_of K G
  have hv := G.2.1
  have hlen := G.2.2.2.2.2.2.2.2.2
  have hd := Hd
  have ho := Ho
  dsimp only [zstp] at h
  have hd := hd rfl
  have ho := ho rfl
  cases hz : znth ls n.val with
  | none => rw [hz] at h; cases h
  | some v =>
    rw [hz] at h
    rcases v with x | (x | (⟨x, x2, x3⟩ | x)) <;> first | (cases h; done) | exact zp_iload_n S N hd ho hz h
set_option maxRecDepth 100000 in
theorem zz_lload {n : Nat} (Hd : Nat.beq (zfalls (.lload n)) 2 = false → decode b off = .ok ((.lload n), zlenf (.lload n))) (Ho : zfalls (.lload n) = 0 → zoff cd (j + 1) = off + zlenf (.lload n)) {len : Nat} (hd0 : decode b off = .ok ((.lload n), len)) (hax : zaux cd y own ret ini (off, (.lload n), an, az) = true) (hxt : zxtra (off, (.lload n), an, az) = true) (h : zstp zarR ph (zK w) (zR w) zrd zup zcp kn kc (fun x m => some (x, m)) none j ls st σ ((.lload n)) an az = some r) (C : zCx p s m args c b nL own D B0) (G : zGd meth ini w D B0 v0 ph s nL n0 ad0 ad ca σ H locs lsC ls st) (K : zKt0 p l e R s m args below meth c Q w D B0 v0 ph cd nL n0 ad0 r kn) (HR : zRm R w n0 d r) (ge : ∀ j ls st σ', kn j ls st σ' = some r → σ' 0 0 ≤ r.2 0 0) (KC : ∀ y' as σ' k c2 n2 pc' ls' st', kc y' as σ' k c2 n2 pc' ls' st' = some r → ∃ d' r', d = d' + 1 ∧ zMet l w D B0 v0 ph d' y' as σ' r' ∧ (zspread as).length ≤ zml y' ∧ σ' 0 0 ≤ r'.2 0 0 ∧ kn pc' ls' (zpush k c2 n2 r'.1 st') r'.2 = some r) (RT : r.2 = σ → decode b off = .ok (zrins (zkindOf ret), 1) → zvoks w (σ 0 0) (zpush (zkindOf ret) (zrtP y).1 (zrtP y).2 r.1 []) → zrng (zkindOf ret) r.1 → W p l e R s m args below meth c H locs (σ 0 0 - n0).toNat (zsl w (σ 0 0) - zsl w n0) Q (F0 m off lsC ((zpush (zkindOf ret) (zrtP y).1 (zrtP y).2 r.1 []).map (zcv ad v0)))) : W p l e R s m args below meth c H locs (σ 0 0 - n0).toNat (zsl w (σ 0 0) - zsl w n0) Q (F0 m off lsC (st.map (zcv ad v0))) := by
  have S := zST_of C G
  have N := zNX_of K G
  have hv := G.2.1
  have hlen := G.2.2.2.2.2.2.2.2.2
  have hd := Hd
  have ho := Ho
  dsimp only [zstp] at h
  have hd := hd rfl
  have ho := ho rfl
  cases hz : znth ls n with
  | none => rw [hz] at h; cases h
  | some v =>
    rw [hz] at h
    rcases v with x | (x | (⟨x, x2, x3⟩ | x)) <;> first | (cases h; done) | exact zp_lload S N hd ho hz h
set_option maxRecDepth 100000 in
theorem zz_lload_n {n : Fin 4} (Hd : Nat.beq (zfalls (.lload_n n)) 2 = false → decode b off = .ok ((.lload_n n), zlenf (.lload_n n))) (Ho : zfalls (.lload_n n) = 0 → zoff cd (j + 1) = off + zlenf (.lload_n n)) {len : Nat} (hd0 : decode b off = .ok ((.lload_n n), len)) (hax : zaux cd y own ret ini (off, (.lload_n n), an, az) = true) (hxt : zxtra (off, (.lload_n n), an, az) = true) (h : zstp zarR ph (zK w) (zR w) zrd zup zcp kn kc (fun x m => some (x, m)) none j ls st σ ((.lload_n n)) an az = some r) (C : zCx p s m args c b nL own D B0) (G : zGd meth ini w D B0 v0 ph s nL n0 ad0 ad ca σ H locs lsC ls st) (K : zKt0 p l e R s m args below meth c Q w D B0 v0 ph cd nL n0 ad0 r kn) (HR : zRm R w n0 d r) (ge : ∀ j ls st σ', kn j ls st σ' = some r → σ' 0 0 ≤ r.2 0 0) (KC : ∀ y' as σ' k c2 n2 pc' ls' st', kc y' as σ' k c2 n2 pc' ls' st' = some r → ∃ d' r', d = d' + 1 ∧ zMet l w D B0 v0 ph d' y' as σ' r' ∧ (zspread as).length ≤ zml y' ∧ σ' 0 0 ≤ r'.2 0 0 ∧ kn pc' ls' (zpush k c2 n2 r'.1 st') r'.2 = some r) (RT : r.2 = σ → decode b off = .ok (zrins (zkindOf ret), 1) → zvoks w (σ 0 0) (zpush (zkindOf ret) (zrtP y).1 (zrtP y).2 r.1 []) → zrng (zkindOf ret) r.1 → W p l e R s m args below meth c H locs (σ 0 0 - n0).toNat (zsl w (σ 0 0) - zsl w n0) Q (F0 m off lsC ((zpush (zkindOf ret) (zrtP y).1 (zrtP y).2 r.1 []).map (zcv ad v0)))) : W p l e R s m args below meth c H locs (σ 0 0 - n0).toNat (zsl w (σ 0 0) - zsl w n0) Q (F0 m off lsC (st.map (zcv ad v0))) := by
  have S := zST_of C G
  have N := zNX_of K G
  have hv := G.2.1
  have hlen := G.2.2.2.2.2.2.2.2.2
  have hd := Hd
  have ho := Ho
  dsimp only [zstp] at h
  have hd := hd rfl
  have ho := ho rfl
  cases hz : znth ls n.val with
  | none => rw [hz] at h; cases h
  | some v =>
    rw [hz] at h
    rcases v with x | (x | (⟨x, x2, x3⟩ | x)) <;> first | (cases h; done) | exact zp_lload_n S N hd ho hz h
set_option maxRecDepth 100000 in
theorem zz_aload {n : Nat} (Hd : Nat.beq (zfalls (.aload n)) 2 = false → decode b off = .ok ((.aload n), zlenf (.aload n))) (Ho : zfalls (.aload n) = 0 → zoff cd (j + 1) = off + zlenf (.aload n)) {len : Nat} (hd0 : decode b off = .ok ((.aload n), len)) (hax : zaux cd y own ret ini (off, (.aload n), an, az) = true) (hxt : zxtra (off, (.aload n), an, az) = true) (h : zstp zarR ph (zK w) (zR w) zrd zup zcp kn kc (fun x m => some (x, m)) none j ls st σ ((.aload n)) an az = some r) (C : zCx p s m args c b nL own D B0) (G : zGd meth ini w D B0 v0 ph s nL n0 ad0 ad ca σ H locs lsC ls st) (K : zKt0 p l e R s m args below meth c Q w D B0 v0 ph cd nL n0 ad0 r kn) (HR : zRm R w n0 d r) (ge : ∀ j ls st σ', kn j ls st σ' = some r → σ' 0 0 ≤ r.2 0 0) (KC : ∀ y' as σ' k c2 n2 pc' ls' st', kc y' as σ' k c2 n2 pc' ls' st' = some r → ∃ d' r', d = d' + 1 ∧ zMet l w D B0 v0 ph d' y' as σ' r' ∧ (zspread as).length ≤ zml y' ∧ σ' 0 0 ≤ r'.2 0 0 ∧ kn pc' ls' (zpush k c2 n2 r'.1 st') r'.2 = some r) (RT : r.2 = σ → decode b off = .ok (zrins (zkindOf ret), 1) → zvoks w (σ 0 0) (zpush (zkindOf ret) (zrtP y).1 (zrtP y).2 r.1 []) → zrng (zkindOf ret) r.1 → W p l e R s m args below meth c H locs (σ 0 0 - n0).toNat (zsl w (σ 0 0) - zsl w n0) Q (F0 m off lsC ((zpush (zkindOf ret) (zrtP y).1 (zrtP y).2 r.1 []).map (zcv ad v0)))) : W p l e R s m args below meth c H locs (σ 0 0 - n0).toNat (zsl w (σ 0 0) - zsl w n0) Q (F0 m off lsC (st.map (zcv ad v0))) := by
  have S := zST_of C G
  have N := zNX_of K G
  have hv := G.2.1
  have hlen := G.2.2.2.2.2.2.2.2.2
  have hd := Hd
  have ho := Ho
  dsimp only [zstp] at h
  have hd := hd rfl
  have ho := ho rfl
  cases hz : znth ls n with
  | none => rw [hz] at h; cases h
  | some v =>
    rw [hz] at h
    rcases v with x | (x | (⟨x, x2, x3⟩ | x)) <;> first | (cases h; done) | exact zp_aload S N hd ho hz h
set_option maxRecDepth 100000 in
theorem zz_aload_n {n : Fin 4} (Hd : Nat.beq (zfalls (.aload_n n)) 2 = false → decode b off = .ok ((.aload_n n), zlenf (.aload_n n))) (Ho : zfalls (.aload_n n) = 0 → zoff cd (j + 1) = off + zlenf (.aload_n n)) {len : Nat} (hd0 : decode b off = .ok ((.aload_n n), len)) (hax : zaux cd y own ret ini (off, (.aload_n n), an, az) = true) (hxt : zxtra (off, (.aload_n n), an, az) = true) (h : zstp zarR ph (zK w) (zR w) zrd zup zcp kn kc (fun x m => some (x, m)) none j ls st σ ((.aload_n n)) an az = some r) (C : zCx p s m args c b nL own D B0) (G : zGd meth ini w D B0 v0 ph s nL n0 ad0 ad ca σ H locs lsC ls st) (K : zKt0 p l e R s m args below meth c Q w D B0 v0 ph cd nL n0 ad0 r kn) (HR : zRm R w n0 d r) (ge : ∀ j ls st σ', kn j ls st σ' = some r → σ' 0 0 ≤ r.2 0 0) (KC : ∀ y' as σ' k c2 n2 pc' ls' st', kc y' as σ' k c2 n2 pc' ls' st' = some r → ∃ d' r', d = d' + 1 ∧ zMet l w D B0 v0 ph d' y' as σ' r' ∧ (zspread as).length ≤ zml y' ∧ σ' 0 0 ≤ r'.2 0 0 ∧ kn pc' ls' (zpush k c2 n2 r'.1 st') r'.2 = some r) (RT : r.2 = σ → decode b off = .ok (zrins (zkindOf ret), 1) → zvoks w (σ 0 0) (zpush (zkindOf ret) (zrtP y).1 (zrtP y).2 r.1 []) → zrng (zkindOf ret) r.1 → W p l e R s m args below meth c H locs (σ 0 0 - n0).toNat (zsl w (σ 0 0) - zsl w n0) Q (F0 m off lsC ((zpush (zkindOf ret) (zrtP y).1 (zrtP y).2 r.1 []).map (zcv ad v0)))) : W p l e R s m args below meth c H locs (σ 0 0 - n0).toNat (zsl w (σ 0 0) - zsl w n0) Q (F0 m off lsC (st.map (zcv ad v0))) := by
  have S := zST_of C G
  have N := zNX_of K G
  have hv := G.2.1
  have hlen := G.2.2.2.2.2.2.2.2.2
  have hd := Hd
  have ho := Ho
  dsimp only [zstp] at h
  have hd := hd rfl
  have ho := ho rfl
  cases hz : znth ls n.val with
  | none => rw [hz] at h; cases h
  | some v =>
    rw [hz] at h
    rcases v with x | (x | (⟨x, x2, x3⟩ | x)) <;> first | (cases h; done) | exact zp_aload_n S N hd ho hz h
set_option maxRecDepth 100000 in
theorem zz_iinc {n : Nat} {v : Int} (Hd : Nat.beq (zfalls (.iinc n v)) 2 = false → decode b off = .ok ((.iinc n v), zlenf (.iinc n v))) (Ho : zfalls (.iinc n v) = 0 → zoff cd (j + 1) = off + zlenf (.iinc n v)) {len : Nat} (hd0 : decode b off = .ok ((.iinc n v), len)) (hax : zaux cd y own ret ini (off, (.iinc n v), an, az) = true) (hxt : zxtra (off, (.iinc n v), an, az) = true) (h : zstp zarR ph (zK w) (zR w) zrd zup zcp kn kc (fun x m => some (x, m)) none j ls st σ ((.iinc n v)) an az = some r) (C : zCx p s m args c b nL own D B0) (G : zGd meth ini w D B0 v0 ph s nL n0 ad0 ad ca σ H locs lsC ls st) (K : zKt0 p l e R s m args below meth c Q w D B0 v0 ph cd nL n0 ad0 r kn) (HR : zRm R w n0 d r) (ge : ∀ j ls st σ', kn j ls st σ' = some r → σ' 0 0 ≤ r.2 0 0) (KC : ∀ y' as σ' k c2 n2 pc' ls' st', kc y' as σ' k c2 n2 pc' ls' st' = some r → ∃ d' r', d = d' + 1 ∧ zMet l w D B0 v0 ph d' y' as σ' r' ∧ (zspread as).length ≤ zml y' ∧ σ' 0 0 ≤ r'.2 0 0 ∧ kn pc' ls' (zpush k c2 n2 r'.1 st') r'.2 = some r) (RT : r.2 = σ → decode b off = .ok (zrins (zkindOf ret), 1) → zvoks w (σ 0 0) (zpush (zkindOf ret) (zrtP y).1 (zrtP y).2 r.1 []) → zrng (zkindOf ret) r.1 → W p l e R s m args below meth c H locs (σ 0 0 - n0).toNat (zsl w (σ 0 0) - zsl w n0) Q (F0 m off lsC ((zpush (zkindOf ret) (zrtP y).1 (zrtP y).2 r.1 []).map (zcv ad v0)))) : W p l e R s m args below meth c H locs (σ 0 0 - n0).toNat (zsl w (σ 0 0) - zsl w n0) Q (F0 m off lsC (st.map (zcv ad v0))) := by
  have S := zST_of C G
  have N := zNX_of K G
  have hv := G.2.1
  have hlen := G.2.2.2.2.2.2.2.2.2
  have hd := Hd
  have ho := Ho
  dsimp only [zstp] at h
  have hd := hd rfl
  have ho := ho rfl
  have hax : -32768 ≤ v ∧ v < 32768 := of_decide_eq_true hax
  cases hz : znth ls n with
  | none => rw [hz] at h; cases h
  | some v' =>
    rw [hz] at h
    rcases v' with x | (x | (⟨x, x2, x3⟩ | x)) <;> first | (cases h; done) | exact zp_iinc S N hd ho ⟨by omega, by omega⟩ hz h
set_option maxRecDepth 100000 in
theorem zz_istore {n : Nat} (Hd : Nat.beq (zfalls (.istore n)) 2 = false → decode b off = .ok ((.istore n), zlenf (.istore n))) (Ho : zfalls (.istore n) = 0 → zoff cd (j + 1) = off + zlenf (.istore n)) {len : Nat} (hd0 : decode b off = .ok ((.istore n), len)) (hax : zaux cd y own ret ini (off, (.istore n), an, az) = true) (hxt : zxtra (off, (.istore n), an, az) = true) (h : zstp zarR ph (zK w) (zR w) zrd zup zcp kn kc (fun x m => some (x, m)) none j ls st σ ((.istore n)) an az = some r) (C : zCx p s m args c b nL own D B0) (G : zGd meth ini w D B0 v0 ph s nL n0 ad0 ad ca σ H locs lsC ls st) (K : zKt0 p l e R s m args below meth c Q w D B0 v0 ph cd nL n0 ad0 r kn) (HR : zRm R w n0 d r) (ge : ∀ j ls st σ', kn j ls st σ' = some r → σ' 0 0 ≤ r.2 0 0) (KC : ∀ y' as σ' k c2 n2 pc' ls' st', kc y' as σ' k c2 n2 pc' ls' st' = some r → ∃ d' r', d = d' + 1 ∧ zMet l w D B0 v0 ph d' y' as σ' r' ∧ (zspread as).length ≤ zml y' ∧ σ' 0 0 ≤ r'.2 0 0 ∧ kn pc' ls' (zpush k c2 n2 r'.1 st') r'.2 = some r) (RT : r.2 = σ → decode b off = .ok (zrins (zkindOf ret), 1) → zvoks w (σ 0 0) (zpush (zkindOf ret) (zrtP y).1 (zrtP y).2 r.1 []) → zrng (zkindOf ret) r.1 → W p l e R s m args below meth c H locs (σ 0 0 - n0).toNat (zsl w (σ 0 0) - zsl w n0) Q (F0 m off lsC ((zpush (zkindOf ret) (zrtP y).1 (zrtP y).2 r.1 []).map (zcv ad v0)))) : W p l e R s m args below meth c H locs (σ 0 0 - n0).toNat (zsl w (σ 0 0) - zsl w n0) Q (F0 m off lsC (st.map (zcv ad v0))) := by
  have S := zST_of C G
  have N := zNX_of K G
  have hv := G.2.1
  have hlen := G.2.2.2.2.2.2.2.2.2
  have hd := Hd
  have ho := Ho
  have hd := hd rfl
  have ho := ho rfl
  obtain ⟨x, st', rfl, h2⟩ := zi1_some h
  obtain ⟨hlt, h3⟩ := zite_some h2
  exact zp_istore S N hd ho hlt h3
set_option maxRecDepth 100000 in
theorem zz_istore_n {n : Fin 4} (Hd : Nat.beq (zfalls (.istore_n n)) 2 = false → decode b off = .ok ((.istore_n n), zlenf (.istore_n n))) (Ho : zfalls (.istore_n n) = 0 → zoff cd (j + 1) = off + zlenf (.istore_n n)) {len : Nat} (hd0 : decode b off = .ok ((.istore_n n), len)) (hax : zaux cd y own ret ini (off, (.istore_n n), an, az) = true) (hxt : zxtra (off, (.istore_n n), an, az) = true) (h : zstp zarR ph (zK w) (zR w) zrd zup zcp kn kc (fun x m => some (x, m)) none j ls st σ ((.istore_n n)) an az = some r) (C : zCx p s m args c b nL own D B0) (G : zGd meth ini w D B0 v0 ph s nL n0 ad0 ad ca σ H locs lsC ls st) (K : zKt0 p l e R s m args below meth c Q w D B0 v0 ph cd nL n0 ad0 r kn) (HR : zRm R w n0 d r) (ge : ∀ j ls st σ', kn j ls st σ' = some r → σ' 0 0 ≤ r.2 0 0) (KC : ∀ y' as σ' k c2 n2 pc' ls' st', kc y' as σ' k c2 n2 pc' ls' st' = some r → ∃ d' r', d = d' + 1 ∧ zMet l w D B0 v0 ph d' y' as σ' r' ∧ (zspread as).length ≤ zml y' ∧ σ' 0 0 ≤ r'.2 0 0 ∧ kn pc' ls' (zpush k c2 n2 r'.1 st') r'.2 = some r) (RT : r.2 = σ → decode b off = .ok (zrins (zkindOf ret), 1) → zvoks w (σ 0 0) (zpush (zkindOf ret) (zrtP y).1 (zrtP y).2 r.1 []) → zrng (zkindOf ret) r.1 → W p l e R s m args below meth c H locs (σ 0 0 - n0).toNat (zsl w (σ 0 0) - zsl w n0) Q (F0 m off lsC ((zpush (zkindOf ret) (zrtP y).1 (zrtP y).2 r.1 []).map (zcv ad v0)))) : W p l e R s m args below meth c H locs (σ 0 0 - n0).toNat (zsl w (σ 0 0) - zsl w n0) Q (F0 m off lsC (st.map (zcv ad v0))) := by
  have S := zST_of C G
  have N := zNX_of K G
  have hv := G.2.1
  have hlen := G.2.2.2.2.2.2.2.2.2
  have hd := Hd
  have ho := Ho
  have hd := hd rfl
  have ho := ho rfl
  obtain ⟨x, st', rfl, h2⟩ := zi1_some h
  obtain ⟨hlt, h3⟩ := zite_some h2
  exact zp_istore_n S N hd ho hlt h3
set_option maxRecDepth 100000 in
theorem zz_lstore {n : Nat} (Hd : Nat.beq (zfalls (.lstore n)) 2 = false → decode b off = .ok ((.lstore n), zlenf (.lstore n))) (Ho : zfalls (.lstore n) = 0 → zoff cd (j + 1) = off + zlenf (.lstore n)) {len : Nat} (hd0 : decode b off = .ok ((.lstore n), len)) (hax : zaux cd y own ret ini (off, (.lstore n), an, az) = true) (hxt : zxtra (off, (.lstore n), an, az) = true) (h : zstp zarR ph (zK w) (zR w) zrd zup zcp kn kc (fun x m => some (x, m)) none j ls st σ ((.lstore n)) an az = some r) (C : zCx p s m args c b nL own D B0) (G : zGd meth ini w D B0 v0 ph s nL n0 ad0 ad ca σ H locs lsC ls st) (K : zKt0 p l e R s m args below meth c Q w D B0 v0 ph cd nL n0 ad0 r kn) (HR : zRm R w n0 d r) (ge : ∀ j ls st σ', kn j ls st σ' = some r → σ' 0 0 ≤ r.2 0 0) (KC : ∀ y' as σ' k c2 n2 pc' ls' st', kc y' as σ' k c2 n2 pc' ls' st' = some r → ∃ d' r', d = d' + 1 ∧ zMet l w D B0 v0 ph d' y' as σ' r' ∧ (zspread as).length ≤ zml y' ∧ σ' 0 0 ≤ r'.2 0 0 ∧ kn pc' ls' (zpush k c2 n2 r'.1 st') r'.2 = some r) (RT : r.2 = σ → decode b off = .ok (zrins (zkindOf ret), 1) → zvoks w (σ 0 0) (zpush (zkindOf ret) (zrtP y).1 (zrtP y).2 r.1 []) → zrng (zkindOf ret) r.1 → W p l e R s m args below meth c H locs (σ 0 0 - n0).toNat (zsl w (σ 0 0) - zsl w n0) Q (F0 m off lsC ((zpush (zkindOf ret) (zrtP y).1 (zrtP y).2 r.1 []).map (zcv ad v0)))) : W p l e R s m args below meth c H locs (σ 0 0 - n0).toNat (zsl w (σ 0 0) - zsl w n0) Q (F0 m off lsC (st.map (zcv ad v0))) := by
  have S := zST_of C G
  have N := zNX_of K G
  have hv := G.2.1
  have hlen := G.2.2.2.2.2.2.2.2.2
  have hd := Hd
  have ho := Ho
  have hd := hd rfl
  have ho := ho rfl
  obtain ⟨x, st', rfl, h2⟩ := zj1_some h
  obtain ⟨hlt, h3⟩ := zite_some h2
  exact zp_lstore S N hd ho hlt h3
set_option maxRecDepth 100000 in
theorem zz_lstore_n {n : Fin 4} (Hd : Nat.beq (zfalls (.lstore_n n)) 2 = false → decode b off = .ok ((.lstore_n n), zlenf (.lstore_n n))) (Ho : zfalls (.lstore_n n) = 0 → zoff cd (j + 1) = off + zlenf (.lstore_n n)) {len : Nat} (hd0 : decode b off = .ok ((.lstore_n n), len)) (hax : zaux cd y own ret ini (off, (.lstore_n n), an, az) = true) (hxt : zxtra (off, (.lstore_n n), an, az) = true) (h : zstp zarR ph (zK w) (zR w) zrd zup zcp kn kc (fun x m => some (x, m)) none j ls st σ ((.lstore_n n)) an az = some r) (C : zCx p s m args c b nL own D B0) (G : zGd meth ini w D B0 v0 ph s nL n0 ad0 ad ca σ H locs lsC ls st) (K : zKt0 p l e R s m args below meth c Q w D B0 v0 ph cd nL n0 ad0 r kn) (HR : zRm R w n0 d r) (ge : ∀ j ls st σ', kn j ls st σ' = some r → σ' 0 0 ≤ r.2 0 0) (KC : ∀ y' as σ' k c2 n2 pc' ls' st', kc y' as σ' k c2 n2 pc' ls' st' = some r → ∃ d' r', d = d' + 1 ∧ zMet l w D B0 v0 ph d' y' as σ' r' ∧ (zspread as).length ≤ zml y' ∧ σ' 0 0 ≤ r'.2 0 0 ∧ kn pc' ls' (zpush k c2 n2 r'.1 st') r'.2 = some r) (RT : r.2 = σ → decode b off = .ok (zrins (zkindOf ret), 1) → zvoks w (σ 0 0) (zpush (zkindOf ret) (zrtP y).1 (zrtP y).2 r.1 []) → zrng (zkindOf ret) r.1 → W p l e R s m args below meth c H locs (σ 0 0 - n0).toNat (zsl w (σ 0 0) - zsl w n0) Q (F0 m off lsC ((zpush (zkindOf ret) (zrtP y).1 (zrtP y).2 r.1 []).map (zcv ad v0)))) : W p l e R s m args below meth c H locs (σ 0 0 - n0).toNat (zsl w (σ 0 0) - zsl w n0) Q (F0 m off lsC (st.map (zcv ad v0))) := by
  have S := zST_of C G
  have N := zNX_of K G
  have hv := G.2.1
  have hlen := G.2.2.2.2.2.2.2.2.2
  have hd := Hd
  have ho := Ho
  have hd := hd rfl
  have ho := ho rfl
  obtain ⟨x, st', rfl, h2⟩ := zj1_some h
  obtain ⟨hlt, h3⟩ := zite_some h2
  exact zp_lstore_n S N hd ho hlt h3
set_option maxRecDepth 100000 in
theorem zz_astore {n : Nat} (Hd : Nat.beq (zfalls (.astore n)) 2 = false → decode b off = .ok ((.astore n), zlenf (.astore n))) (Ho : zfalls (.astore n) = 0 → zoff cd (j + 1) = off + zlenf (.astore n)) {len : Nat} (hd0 : decode b off = .ok ((.astore n), len)) (hax : zaux cd y own ret ini (off, (.astore n), an, az) = true) (hxt : zxtra (off, (.astore n), an, az) = true) (h : zstp zarR ph (zK w) (zR w) zrd zup zcp kn kc (fun x m => some (x, m)) none j ls st σ ((.astore n)) an az = some r) (C : zCx p s m args c b nL own D B0) (G : zGd meth ini w D B0 v0 ph s nL n0 ad0 ad ca σ H locs lsC ls st) (K : zKt0 p l e R s m args below meth c Q w D B0 v0 ph cd nL n0 ad0 r kn) (HR : zRm R w n0 d r) (ge : ∀ j ls st σ', kn j ls st σ' = some r → σ' 0 0 ≤ r.2 0 0) (KC : ∀ y' as σ' k c2 n2 pc' ls' st', kc y' as σ' k c2 n2 pc' ls' st' = some r → ∃ d' r', d = d' + 1 ∧ zMet l w D B0 v0 ph d' y' as σ' r' ∧ (zspread as).length ≤ zml y' ∧ σ' 0 0 ≤ r'.2 0 0 ∧ kn pc' ls' (zpush k c2 n2 r'.1 st') r'.2 = some r) (RT : r.2 = σ → decode b off = .ok (zrins (zkindOf ret), 1) → zvoks w (σ 0 0) (zpush (zkindOf ret) (zrtP y).1 (zrtP y).2 r.1 []) → zrng (zkindOf ret) r.1 → W p l e R s m args below meth c H locs (σ 0 0 - n0).toNat (zsl w (σ 0 0) - zsl w n0) Q (F0 m off lsC ((zpush (zkindOf ret) (zrtP y).1 (zrtP y).2 r.1 []).map (zcv ad v0)))) : W p l e R s m args below meth c H locs (σ 0 0 - n0).toNat (zsl w (σ 0 0) - zsl w n0) Q (F0 m off lsC (st.map (zcv ad v0))) := by
  have S := zST_of C G
  have N := zNX_of K G
  have hv := G.2.1
  have hlen := G.2.2.2.2.2.2.2.2.2
  have hd := Hd
  have ho := Ho
  have hd := hd rfl
  have ho := ho rfl
  obtain ⟨c1, n1, x, st', rfl, h2⟩ := zr1_some h
  obtain ⟨hlt, h3⟩ := zite_some h2
  exact zp_astore S N hd ho hlt h3
set_option maxRecDepth 100000 in
theorem zz_astore_n {n : Fin 4} (Hd : Nat.beq (zfalls (.astore_n n)) 2 = false → decode b off = .ok ((.astore_n n), zlenf (.astore_n n))) (Ho : zfalls (.astore_n n) = 0 → zoff cd (j + 1) = off + zlenf (.astore_n n)) {len : Nat} (hd0 : decode b off = .ok ((.astore_n n), len)) (hax : zaux cd y own ret ini (off, (.astore_n n), an, az) = true) (hxt : zxtra (off, (.astore_n n), an, az) = true) (h : zstp zarR ph (zK w) (zR w) zrd zup zcp kn kc (fun x m => some (x, m)) none j ls st σ ((.astore_n n)) an az = some r) (C : zCx p s m args c b nL own D B0) (G : zGd meth ini w D B0 v0 ph s nL n0 ad0 ad ca σ H locs lsC ls st) (K : zKt0 p l e R s m args below meth c Q w D B0 v0 ph cd nL n0 ad0 r kn) (HR : zRm R w n0 d r) (ge : ∀ j ls st σ', kn j ls st σ' = some r → σ' 0 0 ≤ r.2 0 0) (KC : ∀ y' as σ' k c2 n2 pc' ls' st', kc y' as σ' k c2 n2 pc' ls' st' = some r → ∃ d' r', d = d' + 1 ∧ zMet l w D B0 v0 ph d' y' as σ' r' ∧ (zspread as).length ≤ zml y' ∧ σ' 0 0 ≤ r'.2 0 0 ∧ kn pc' ls' (zpush k c2 n2 r'.1 st') r'.2 = some r) (RT : r.2 = σ → decode b off = .ok (zrins (zkindOf ret), 1) → zvoks w (σ 0 0) (zpush (zkindOf ret) (zrtP y).1 (zrtP y).2 r.1 []) → zrng (zkindOf ret) r.1 → W p l e R s m args below meth c H locs (σ 0 0 - n0).toNat (zsl w (σ 0 0) - zsl w n0) Q (F0 m off lsC ((zpush (zkindOf ret) (zrtP y).1 (zrtP y).2 r.1 []).map (zcv ad v0)))) : W p l e R s m args below meth c H locs (σ 0 0 - n0).toNat (zsl w (σ 0 0) - zsl w n0) Q (F0 m off lsC (st.map (zcv ad v0))) := by
  have S := zST_of C G
  have N := zNX_of K G
  have hv := G.2.1
  have hlen := G.2.2.2.2.2.2.2.2.2
  have hd := Hd
  have ho := Ho
  have hd := hd rfl
  have ho := ho rfl
  obtain ⟨c1, n1, x, st', rfl, h2⟩ := zr1_some h
  obtain ⟨hlt, h3⟩ := zite_some h2
  exact zp_astore_n S N hd ho hlt h3
set_option maxRecDepth 100000 in
theorem zz_dup  (Hd : Nat.beq (zfalls (.dup)) 2 = false → decode b off = .ok ((.dup), zlenf (.dup))) (Ho : zfalls (.dup) = 0 → zoff cd (j + 1) = off + zlenf (.dup)) {len : Nat} (hd0 : decode b off = .ok ((.dup), len)) (hax : zaux cd y own ret ini (off, (.dup), an, az) = true) (hxt : zxtra (off, (.dup), an, az) = true) (h : zstp zarR ph (zK w) (zR w) zrd zup zcp kn kc (fun x m => some (x, m)) none j ls st σ ((.dup)) an az = some r) (C : zCx p s m args c b nL own D B0) (G : zGd meth ini w D B0 v0 ph s nL n0 ad0 ad ca σ H locs lsC ls st) (K : zKt0 p l e R s m args below meth c Q w D B0 v0 ph cd nL n0 ad0 r kn) (HR : zRm R w n0 d r) (ge : ∀ j ls st σ', kn j ls st σ' = some r → σ' 0 0 ≤ r.2 0 0) (KC : ∀ y' as σ' k c2 n2 pc' ls' st', kc y' as σ' k c2 n2 pc' ls' st' = some r → ∃ d' r', d = d' + 1 ∧ zMet l w D B0 v0 ph d' y' as σ' r' ∧ (zspread as).length ≤ zml y' ∧ σ' 0 0 ≤ r'.2 0 0 ∧ kn pc' ls' (zpush k c2 n2 r'.1 st') r'.2 = some r) (RT : r.2 = σ → decode b off = .ok (zrins (zkindOf ret), 1) → zvoks w (σ 0 0) (zpush (zkindOf ret) (zrtP y).1 (zrtP y).2 r.1 []) → zrng (zkindOf ret) r.1 → W p l e R s m args below meth c H locs (σ 0 0 - n0).toNat (zsl w (σ 0 0) - zsl w n0) Q (F0 m off lsC ((zpush (zkindOf ret) (zrtP y).1 (zrtP y).2 r.1 []).map (zcv ad v0)))) : W p l e R s m args below meth c H locs (σ 0 0 - n0).toNat (zsl w (σ 0 0) - zsl w n0) Q (F0 m off lsC (st.map (zcv ad v0))) := by
  have S := zST_of C G
  have N := zNX_of K G
  have hv := G.2.1
  have hlen := G.2.2.2.2.2.2.2.2.2
  have hd := Hd
  have ho := Ho
  have hd := hd rfl
  have ho := ho rfl
  rcases st with _ | ⟨(x | (x | x)), st⟩ <;> first | (cases h; done) | exact zp_dup S N hd ho hv rfl h
set_option maxRecDepth 100000 in
theorem zz_pop  (Hd : Nat.beq (zfalls (.pop)) 2 = false → decode b off = .ok ((.pop), zlenf (.pop))) (Ho : zfalls (.pop) = 0 → zoff cd (j + 1) = off + zlenf (.pop)) {len : Nat} (hd0 : decode b off = .ok ((.pop), len)) (hax : zaux cd y own ret ini (off, (.pop), an, az) = true) (hxt : zxtra (off, (.pop), an, az) = true) (h : zstp zarR ph (zK w) (zR w) zrd zup zcp kn kc (fun x m => some (x, m)) none j ls st σ ((.pop)) an az = some r) (C : zCx p s m args c b nL own D B0) (G : zGd meth ini w D B0 v0 ph s nL n0 ad0 ad ca σ H locs lsC ls st) (K : zKt0 p l e R s m args below meth c Q w D B0 v0 ph cd nL n0 ad0 r kn) (HR : zRm R w n0 d r) (ge : ∀ j ls st σ', kn j ls st σ' = some r → σ' 0 0 ≤ r.2 0 0) (KC : ∀ y' as σ' k c2 n2 pc' ls' st', kc y' as σ' k c2 n2 pc' ls' st' = some r → ∃ d' r', d = d' + 1 ∧ zMet l w D B0 v0 ph d' y' as σ' r' ∧ (zspread as).length ≤ zml y' ∧ σ' 0 0 ≤ r'.2 0 0 ∧ kn pc' ls' (zpush k c2 n2 r'.1 st') r'.2 = some r) (RT : r.2 = σ → decode b off = .ok (zrins (zkindOf ret), 1) → zvoks w (σ 0 0) (zpush (zkindOf ret) (zrtP y).1 (zrtP y).2 r.1 []) → zrng (zkindOf ret) r.1 → W p l e R s m args below meth c H locs (σ 0 0 - n0).toNat (zsl w (σ 0 0) - zsl w n0) Q (F0 m off lsC ((zpush (zkindOf ret) (zrtP y).1 (zrtP y).2 r.1 []).map (zcv ad v0)))) : W p l e R s m args below meth c H locs (σ 0 0 - n0).toNat (zsl w (σ 0 0) - zsl w n0) Q (F0 m off lsC (st.map (zcv ad v0))) := by
  have S := zST_of C G
  have N := zNX_of K G
  have hv := G.2.1
  have hlen := G.2.2.2.2.2.2.2.2.2
  have hd := Hd
  have ho := Ho
  have hd := hd rfl
  have ho := ho rfl
  rcases st with _ | ⟨(x | (x | x)), st⟩ <;> first | (cases h; done) | exact zp_pop S N hd ho hv rfl h
set_option maxRecDepth 100000 in
theorem zz_dup2  (Hd : Nat.beq (zfalls (.dup2)) 2 = false → decode b off = .ok ((.dup2), zlenf (.dup2))) (Ho : zfalls (.dup2) = 0 → zoff cd (j + 1) = off + zlenf (.dup2)) {len : Nat} (hd0 : decode b off = .ok ((.dup2), len)) (hax : zaux cd y own ret ini (off, (.dup2), an, az) = true) (hxt : zxtra (off, (.dup2), an, az) = true) (h : zstp zarR ph (zK w) (zR w) zrd zup zcp kn kc (fun x m => some (x, m)) none j ls st σ ((.dup2)) an az = some r) (C : zCx p s m args c b nL own D B0) (G : zGd meth ini w D B0 v0 ph s nL n0 ad0 ad ca σ H locs lsC ls st) (K : zKt0 p l e R s m args below meth c Q w D B0 v0 ph cd nL n0 ad0 r kn) (HR : zRm R w n0 d r) (ge : ∀ j ls st σ', kn j ls st σ' = some r → σ' 0 0 ≤ r.2 0 0) (KC : ∀ y' as σ' k c2 n2 pc' ls' st', kc y' as σ' k c2 n2 pc' ls' st' = some r → ∃ d' r', d = d' + 1 ∧ zMet l w D B0 v0 ph d' y' as σ' r' ∧ (zspread as).length ≤ zml y' ∧ σ' 0 0 ≤ r'.2 0 0 ∧ kn pc' ls' (zpush k c2 n2 r'.1 st') r'.2 = some r) (RT : r.2 = σ → decode b off = .ok (zrins (zkindOf ret), 1) → zvoks w (σ 0 0) (zpush (zkindOf ret) (zrtP y).1 (zrtP y).2 r.1 []) → zrng (zkindOf ret) r.1 → W p l e R s m args below meth c H locs (σ 0 0 - n0).toNat (zsl w (σ 0 0) - zsl w n0) Q (F0 m off lsC ((zpush (zkindOf ret) (zrtP y).1 (zrtP y).2 r.1 []).map (zcv ad v0)))) : W p l e R s m args below meth c H locs (σ 0 0 - n0).toNat (zsl w (σ 0 0) - zsl w n0) Q (F0 m off lsC (st.map (zcv ad v0))) := by
  have S := zST_of C G
  have N := zNX_of K G
  have hv := G.2.1
  have hlen := G.2.2.2.2.2.2.2.2.2
  have hd := Hd
  have ho := Ho
  have hd := hd rfl
  have ho := ho rfl
  rcases st with _ | ⟨(x | (x | x)), _ | ⟨(u | (u | (⟨c3, n3, u⟩ | u))), st⟩⟩ <;> first | (cases h; done) | exact zp_dup2 S N hd ho h | exact zp_dup2J S N hd ho h
set_option maxRecDepth 100000 in
theorem zz_goto {o : Int} (Hd : Nat.beq (zfalls (.goto o)) 2 = false → decode b off = .ok ((.goto o), zlenf (.goto o))) (Ho : zfalls (.goto o) = 0 → zoff cd (j + 1) = off + zlenf (.goto o)) {len : Nat} (hd0 : decode b off = .ok ((.goto o), len)) (hax : zaux cd y own ret ini (off, (.goto o), an, az) = true) (hxt : zxtra (off, (.goto o), an, az) = true) (h : zstp zarR ph (zK w) (zR w) zrd zup zcp kn kc (fun x m => some (x, m)) none j ls st σ ((.goto o)) an az = some r) (C : zCx p s m args c b nL own D B0) (G : zGd meth ini w D B0 v0 ph s nL n0 ad0 ad ca σ H locs lsC ls st) (K : zKt0 p l e R s m args below meth c Q w D B0 v0 ph cd nL n0 ad0 r kn) (HR : zRm R w n0 d r) (ge : ∀ j ls st σ', kn j ls st σ' = some r → σ' 0 0 ≤ r.2 0 0) (KC : ∀ y' as σ' k c2 n2 pc' ls' st', kc y' as σ' k c2 n2 pc' ls' st' = some r → ∃ d' r', d = d' + 1 ∧ zMet l w D B0 v0 ph d' y' as σ' r' ∧ (zspread as).length ≤ zml y' ∧ σ' 0 0 ≤ r'.2 0 0 ∧ kn pc' ls' (zpush k c2 n2 r'.1 st') r'.2 = some r) (RT : r.2 = σ → decode b off = .ok (zrins (zkindOf ret), 1) → zvoks w (σ 0 0) (zpush (zkindOf ret) (zrtP y).1 (zrtP y).2 r.1 []) → zrng (zkindOf ret) r.1 → W p l e R s m args below meth c H locs (σ 0 0 - n0).toNat (zsl w (σ 0 0) - zsl w n0) Q (F0 m off lsC ((zpush (zkindOf ret) (zrtP y).1 (zrtP y).2 r.1 []).map (zcv ad v0)))) : W p l e R s m args below meth c H locs (σ 0 0 - n0).toNat (zsl w (σ 0 0) - zsl w n0) Q (F0 m off lsC (st.map (zcv ad v0))) := by
  have S := zST_of C G
  have N := zNX_of K G
  have hv := G.2.1
  have hlen := G.2.2.2.2.2.2.2.2.2
  have hd := Hd
  have ho := Ho
  have hd := hd rfl
  rcases an with _ | ⟨t, _ | ⟨t2, an⟩⟩
  · cases h
  · have hax : zjmp cd off o t = true := hax
    simp only [zjmp, Bool.and_eq_true, decide_eq_true_eq] at hax
    exact zp_goto S N hd hax.1 h
  · cases h
set_option maxRecDepth 100000 in
theorem zz_ifCond {cnd : Jvm.ClassFile.Cond} {o : Int} (Hd : Nat.beq (zfalls (.ifCond cnd o)) 2 = false → decode b off = .ok ((.ifCond cnd o), zlenf (.ifCond cnd o))) (Ho : zfalls (.ifCond cnd o) = 0 → zoff cd (j + 1) = off + zlenf (.ifCond cnd o)) {len : Nat} (hd0 : decode b off = .ok ((.ifCond cnd o), len)) (hax : zaux cd y own ret ini (off, (.ifCond cnd o), an, az) = true) (hxt : zxtra (off, (.ifCond cnd o), an, az) = true) (h : zstp zarR ph (zK w) (zR w) zrd zup zcp kn kc (fun x m => some (x, m)) none j ls st σ ((.ifCond cnd o)) an az = some r) (C : zCx p s m args c b nL own D B0) (G : zGd meth ini w D B0 v0 ph s nL n0 ad0 ad ca σ H locs lsC ls st) (K : zKt0 p l e R s m args below meth c Q w D B0 v0 ph cd nL n0 ad0 r kn) (HR : zRm R w n0 d r) (ge : ∀ j ls st σ', kn j ls st σ' = some r → σ' 0 0 ≤ r.2 0 0) (KC : ∀ y' as σ' k c2 n2 pc' ls' st', kc y' as σ' k c2 n2 pc' ls' st' = some r → ∃ d' r', d = d' + 1 ∧ zMet l w D B0 v0 ph d' y' as σ' r' ∧ (zspread as).length ≤ zml y' ∧ σ' 0 0 ≤ r'.2 0 0 ∧ kn pc' ls' (zpush k c2 n2 r'.1 st') r'.2 = some r) (RT : r.2 = σ → decode b off = .ok (zrins (zkindOf ret), 1) → zvoks w (σ 0 0) (zpush (zkindOf ret) (zrtP y).1 (zrtP y).2 r.1 []) → zrng (zkindOf ret) r.1 → W p l e R s m args below meth c H locs (σ 0 0 - n0).toNat (zsl w (σ 0 0) - zsl w n0) Q (F0 m off lsC ((zpush (zkindOf ret) (zrtP y).1 (zrtP y).2 r.1 []).map (zcv ad v0)))) : W p l e R s m args below meth c H locs (σ 0 0 - n0).toNat (zsl w (σ 0 0) - zsl w n0) Q (F0 m off lsC (st.map (zcv ad v0))) := by
  have S := zST_of C G
  have N := zNX_of K G
  have hv := G.2.1
  have hlen := G.2.2.2.2.2.2.2.2.2
  have hd := Hd
  have ho := Ho
  have hd := hd rfl
  have ho := ho rfl
  rcases an with _ | ⟨t, _ | ⟨t2, an⟩⟩
  · cases h
  · have hj : zjmp cd off o t = true := hax
    simp only [zjmp, Bool.and_eq_true, decide_eq_true_eq] at hj
    obtain ⟨x, st', rfl, h2⟩ := zi1_some h
    cases cnd
    · exact zp_ifCond_eq S N hd ho hj.1 h2
    · exact zp_ifCond_ne S N hd ho hj.1 h2
    · exact zp_ifCond_lt S N hd ho hj.1 h2
    · exact zp_ifCond_ge S N hd ho hj.1 h2
    · exact zp_ifCond_gt S N hd ho hj.1 h2
    · exact zp_ifCond_le S N hd ho hj.1 h2
  · cases h
set_option maxRecDepth 100000 in
theorem zz_if_icmp {cnd : Jvm.ClassFile.Cond} {o : Int} (Hd : Nat.beq (zfalls (.if_icmp cnd o)) 2 = false → decode b off = .ok ((.if_icmp cnd o), zlenf (.if_icmp cnd o))) (Ho : zfalls (.if_icmp cnd o) = 0 → zoff cd (j + 1) = off + zlenf (.if_icmp cnd o)) {len : Nat} (hd0 : decode b off = .ok ((.if_icmp cnd o), len)) (hax : zaux cd y own ret ini (off, (.if_icmp cnd o), an, az) = true) (hxt : zxtra (off, (.if_icmp cnd o), an, az) = true) (h : zstp zarR ph (zK w) (zR w) zrd zup zcp kn kc (fun x m => some (x, m)) none j ls st σ ((.if_icmp cnd o)) an az = some r) (C : zCx p s m args c b nL own D B0) (G : zGd meth ini w D B0 v0 ph s nL n0 ad0 ad ca σ H locs lsC ls st) (K : zKt0 p l e R s m args below meth c Q w D B0 v0 ph cd nL n0 ad0 r kn) (HR : zRm R w n0 d r) (ge : ∀ j ls st σ', kn j ls st σ' = some r → σ' 0 0 ≤ r.2 0 0) (KC : ∀ y' as σ' k c2 n2 pc' ls' st', kc y' as σ' k c2 n2 pc' ls' st' = some r → ∃ d' r', d = d' + 1 ∧ zMet l w D B0 v0 ph d' y' as σ' r' ∧ (zspread as).length ≤ zml y' ∧ σ' 0 0 ≤ r'.2 0 0 ∧ kn pc' ls' (zpush k c2 n2 r'.1 st') r'.2 = some r) (RT : r.2 = σ → decode b off = .ok (zrins (zkindOf ret), 1) → zvoks w (σ 0 0) (zpush (zkindOf ret) (zrtP y).1 (zrtP y).2 r.1 []) → zrng (zkindOf ret) r.1 → W p l e R s m args below meth c H locs (σ 0 0 - n0).toNat (zsl w (σ 0 0) - zsl w n0) Q (F0 m off lsC ((zpush (zkindOf ret) (zrtP y).1 (zrtP y).2 r.1 []).map (zcv ad v0)))) : W p l e R s m args below meth c H locs (σ 0 0 - n0).toNat (zsl w (σ 0 0) - zsl w n0) Q (F0 m off lsC (st.map (zcv ad v0))) := by
  have S := zST_of C G
  have N := zNX_of K G
  have hv := G.2.1
  have hlen := G.2.2.2.2.2.2.2.2.2
  have hd := Hd
  have ho := Ho
  have hd := hd rfl
  have ho := ho rfl
  rcases an with _ | ⟨t, _ | ⟨t2, an⟩⟩
  · cases h
  · have hj : zjmp cd off o t = true := hax
    simp only [zjmp, Bool.and_eq_true, decide_eq_true_eq] at hj
    obtain ⟨x, x2, st', rfl, h2⟩ := zi2_some h
    cases cnd
    · exact zp_if_icmp_eq S N hd ho hj.1 h2
    · exact zp_if_icmp_ne S N hd ho hj.1 h2
    · exact zp_if_icmp_lt S N hd ho hj.1 h2
    · exact zp_if_icmp_ge S N hd ho hj.1 h2
    · exact zp_if_icmp_gt S N hd ho hj.1 h2
    · exact zp_if_icmp_le S N hd ho hj.1 h2
  · cases h
set_option maxRecDepth 100000 in
theorem zz_tableswitch {dd : Int} {lo : Int} {hi : Int} {offs : Array Int} (Hd : Nat.beq (zfalls (.tableswitch dd lo hi offs)) 2 = false → decode b off = .ok ((.tableswitch dd lo hi offs), zlenf (.tableswitch dd lo hi offs))) (Ho : zfalls (.tableswitch dd lo hi offs) = 0 → zoff cd (j + 1) = off + zlenf (.tableswitch dd lo hi offs)) {len : Nat} (hd0 : decode b off = .ok ((.tableswitch dd lo hi offs), len)) (hax : zaux cd y own ret ini (off, (.tableswitch dd lo hi offs), an, az) = true) (hxt : zxtra (off, (.tableswitch dd lo hi offs), an, az) = true) (h : zstp zarR ph (zK w) (zR w) zrd zup zcp kn kc (fun x m => some (x, m)) none j ls st σ ((.tableswitch dd lo hi offs)) an az = some r) (C : zCx p s m args c b nL own D B0) (G : zGd meth ini w D B0 v0 ph s nL n0 ad0 ad ca σ H locs lsC ls st) (K : zKt0 p l e R s m args below meth c Q w D B0 v0 ph cd nL n0 ad0 r kn) (HR : zRm R w n0 d r) (ge : ∀ j ls st σ', kn j ls st σ' = some r → σ' 0 0 ≤ r.2 0 0) (KC : ∀ y' as σ' k c2 n2 pc' ls' st', kc y' as σ' k c2 n2 pc' ls' st' = some r → ∃ d' r', d = d' + 1 ∧ zMet l w D B0 v0 ph d' y' as σ' r' ∧ (zspread as).length ≤ zml y' ∧ σ' 0 0 ≤ r'.2 0 0 ∧ kn pc' ls' (zpush k c2 n2 r'.1 st') r'.2 = some r) (RT : r.2 = σ → decode b off = .ok (zrins (zkindOf ret), 1) → zvoks w (σ 0 0) (zpush (zkindOf ret) (zrtP y).1 (zrtP y).2 r.1 []) → zrng (zkindOf ret) r.1 → W p l e R s m args below meth c H locs (σ 0 0 - n0).toNat (zsl w (σ 0 0) - zsl w n0) Q (F0 m off lsC ((zpush (zkindOf ret) (zrtP y).1 (zrtP y).2 r.1 []).map (zcv ad v0)))) : W p l e R s m args below meth c H locs (σ 0 0 - n0).toNat (zsl w (σ 0 0) - zsl w n0) Q (F0 m off lsC (st.map (zcv ad v0))) := by
  have S := zST_of C G
  have N := zNX_of K G
  have hv := G.2.1
  have hlen := G.2.2.2.2.2.2.2.2.2
  have hd := Hd
  have ho := Ho
  rcases an with _ | ⟨dt, ts⟩
  · cases h
  · have hax : (zjmp cd off dd dt && zjmps cd off offs.toList ts && decide (hi = lo + (ts.length : Int) - 1)) = true := hax
    simp only [Bool.and_eq_true, decide_eq_true_eq] at hax
    obtain ⟨x, st', rfl, h2⟩ := zi1_some h
    exact zp_table S N hd0 hax.1.1 hax.1.2 hax.2 h2
set_option maxRecDepth 100000 in
theorem zz_lookupswitch {dd : Int} {ps : Array (Int × Int)} (Hd : Nat.beq (zfalls (.lookupswitch dd ps)) 2 = false → decode b off = .ok ((.lookupswitch dd ps), zlenf (.lookupswitch dd ps))) (Ho : zfalls (.lookupswitch dd ps) = 0 → zoff cd (j + 1) = off + zlenf (.lookupswitch dd ps)) {len : Nat} (hd0 : decode b off = .ok ((.lookupswitch dd ps), len)) (hax : zaux cd y own ret ini (off, (.lookupswitch dd ps), an, az) = true) (hxt : zxtra (off, (.lookupswitch dd ps), an, az) = true) (h : zstp zarR ph (zK w) (zR w) zrd zup zcp kn kc (fun x m => some (x, m)) none j ls st σ ((.lookupswitch dd ps)) an az = some r) (C : zCx p s m args c b nL own D B0) (G : zGd meth ini w D B0 v0 ph s nL n0 ad0 ad ca σ H locs lsC ls st) (K : zKt0 p l e R s m args below meth c Q w D B0 v0 ph cd nL n0 ad0 r kn) (HR : zRm R w n0 d r) (ge : ∀ j ls st σ', kn j ls st σ' = some r → σ' 0 0 ≤ r.2 0 0) (KC : ∀ y' as σ' k c2 n2 pc' ls' st', kc y' as σ' k c2 n2 pc' ls' st' = some r → ∃ d' r', d = d' + 1 ∧ zMet l w D B0 v0 ph d' y' as σ' r' ∧ (zspread as).length ≤ zml y' ∧ σ' 0 0 ≤ r'.2 0 0 ∧ kn pc' ls' (zpush k c2 n2 r'.1 st') r'.2 = some r) (RT : r.2 = σ → decode b off = .ok (zrins (zkindOf ret), 1) → zvoks w (σ 0 0) (zpush (zkindOf ret) (zrtP y).1 (zrtP y).2 r.1 []) → zrng (zkindOf ret) r.1 → W p l e R s m args below meth c H locs (σ 0 0 - n0).toNat (zsl w (σ 0 0) - zsl w n0) Q (F0 m off lsC ((zpush (zkindOf ret) (zrtP y).1 (zrtP y).2 r.1 []).map (zcv ad v0)))) : W p l e R s m args below meth c H locs (σ 0 0 - n0).toNat (zsl w (σ 0 0) - zsl w n0) Q (F0 m off lsC (st.map (zcv ad v0))) := by
  have S := zST_of C G
  have N := zNX_of K G
  have hv := G.2.1
  have hlen := G.2.2.2.2.2.2.2.2.2
  have hd := Hd
  have ho := Ho
  rcases an with _ | ⟨dt, ts⟩
  · cases h
  · have hax : (zjmp cd off dd dt && zjmps cd off (ps.toList.map (·.2)) ts && decide (az = ps.toList.map (·.1)) && (ps.toList.zip (ps.toList.drop 1)).all (fun (a, next) => a.1 < next.1)) = true := hax
    simp only [Bool.and_eq_true, decide_eq_true_eq] at hax
    obtain ⟨⟨⟨a1, a2⟩, a3⟩, a4⟩ := hax
    subst a3
    obtain ⟨x, st', rfl, h2⟩ := zi1_some h
    exact zp_lookup S N hd0 a1 a2 a4 h2
set_option maxRecDepth 100000 in
theorem zz_ldc {idx : Nat} (Hd : Nat.beq (zfalls (.ldc idx)) 2 = false → decode b off = .ok ((.ldc idx), zlenf (.ldc idx))) (Ho : zfalls (.ldc idx) = 0 → zoff cd (j + 1) = off + zlenf (.ldc idx)) {len : Nat} (hd0 : decode b off = .ok ((.ldc idx), len)) (hax : zaux cd y own ret ini (off, (.ldc idx), an, az) = true) (hxt : zxtra (off, (.ldc idx), an, az) = true) (h : zstp zarR ph (zK w) (zR w) zrd zup zcp kn kc (fun x m => some (x, m)) none j ls st σ ((.ldc idx)) an az = some r) (C : zCx p s m args c b nL own D B0) (G : zGd meth ini w D B0 v0 ph s nL n0 ad0 ad ca σ H locs lsC ls st) (K : zKt0 p l e R s m args below meth c Q w D B0 v0 ph cd nL n0 ad0 r kn) (HR : zRm R w n0 d r) (ge : ∀ j ls st σ', kn j ls st σ' = some r → σ' 0 0 ≤ r.2 0 0) (KC : ∀ y' as σ' k c2 n2 pc' ls' st', kc y' as σ' k c2 n2 pc' ls' st' = some r → ∃ d' r', d = d' + 1 ∧ zMet l w D B0 v0 ph d' y' as σ' r' ∧ (zspread as).length ≤ zml y' ∧ σ' 0 0 ≤ r'.2 0 0 ∧ kn pc' ls' (zpush k c2 n2 r'.1 st') r'.2 = some r) (RT : r.2 = σ → decode b off = .ok (zrins (zkindOf ret), 1) → zvoks w (σ 0 0) (zpush (zkindOf ret) (zrtP y).1 (zrtP y).2 r.1 []) → zrng (zkindOf ret) r.1 → W p l e R s m args below meth c H locs (σ 0 0 - n0).toNat (zsl w (σ 0 0) - zsl w n0) Q (F0 m off lsC ((zpush (zkindOf ret) (zrtP y).1 (zrtP y).2 r.1 []).map (zcv ad v0)))) : W p l e R s m args below meth c H locs (σ 0 0 - n0).toNat (zsl w (σ 0 0) - zsl w n0) Q (F0 m off lsC (st.map (zcv ad v0))) := by
  have S := zST_of C G
  have N := zNX_of K G
  have hv := G.2.1
  have hlen := G.2.2.2.2.2.2.2.2.2
  have hd := Hd
  have ho := Ho
  exact zs_ldc C G K hax (hd rfl) (ho rfl) h
set_option maxRecDepth 100000 in
theorem zz_ldc_w {idx : Nat} (Hd : Nat.beq (zfalls (.ldc_w idx)) 2 = false → decode b off = .ok ((.ldc_w idx), zlenf (.ldc_w idx))) (Ho : zfalls (.ldc_w idx) = 0 → zoff cd (j + 1) = off + zlenf (.ldc_w idx)) {len : Nat} (hd0 : decode b off = .ok ((.ldc_w idx), len)) (hax : zaux cd y own ret ini (off, (.ldc_w idx), an, az) = true) (hxt : zxtra (off, (.ldc_w idx), an, az) = true) (h : zstp zarR ph (zK w) (zR w) zrd zup zcp kn kc (fun x m => some (x, m)) none j ls st σ ((.ldc_w idx)) an az = some r) (C : zCx p s m args c b nL own D B0) (G : zGd meth ini w D B0 v0 ph s nL n0 ad0 ad ca σ H locs lsC ls st) (K : zKt0 p l e R s m args below meth c Q w D B0 v0 ph cd nL n0 ad0 r kn) (HR : zRm R w n0 d r) (ge : ∀ j ls st σ', kn j ls st σ' = some r → σ' 0 0 ≤ r.2 0 0) (KC : ∀ y' as σ' k c2 n2 pc' ls' st', kc y' as σ' k c2 n2 pc' ls' st' = some r → ∃ d' r', d = d' + 1 ∧ zMet l w D B0 v0 ph d' y' as σ' r' ∧ (zspread as).length ≤ zml y' ∧ σ' 0 0 ≤ r'.2 0 0 ∧ kn pc' ls' (zpush k c2 n2 r'.1 st') r'.2 = some r) (RT : r.2 = σ → decode b off = .ok (zrins (zkindOf ret), 1) → zvoks w (σ 0 0) (zpush (zkindOf ret) (zrtP y).1 (zrtP y).2 r.1 []) → zrng (zkindOf ret) r.1 → W p l e R s m args below meth c H locs (σ 0 0 - n0).toNat (zsl w (σ 0 0) - zsl w n0) Q (F0 m off lsC ((zpush (zkindOf ret) (zrtP y).1 (zrtP y).2 r.1 []).map (zcv ad v0)))) : W p l e R s m args below meth c H locs (σ 0 0 - n0).toNat (zsl w (σ 0 0) - zsl w n0) Q (F0 m off lsC (st.map (zcv ad v0))) := by
  have S := zST_of C G
  have N := zNX_of K G
  have hv := G.2.1
  have hlen := G.2.2.2.2.2.2.2.2.2
  have hd := Hd
  have ho := Ho
  exact zs_ldcw C G K hax (hd rfl) (ho rfl) h
set_option maxRecDepth 100000 in
theorem zz_ldc2_w {idx : Nat} (Hd : Nat.beq (zfalls (.ldc2_w idx)) 2 = false → decode b off = .ok ((.ldc2_w idx), zlenf (.ldc2_w idx))) (Ho : zfalls (.ldc2_w idx) = 0 → zoff cd (j + 1) = off + zlenf (.ldc2_w idx)) {len : Nat} (hd0 : decode b off = .ok ((.ldc2_w idx), len)) (hax : zaux cd y own ret ini (off, (.ldc2_w idx), an, az) = true) (hxt : zxtra (off, (.ldc2_w idx), an, az) = true) (h : zstp zarR ph (zK w) (zR w) zrd zup zcp kn kc (fun x m => some (x, m)) none j ls st σ ((.ldc2_w idx)) an az = some r) (C : zCx p s m args c b nL own D B0) (G : zGd meth ini w D B0 v0 ph s nL n0 ad0 ad ca σ H locs lsC ls st) (K : zKt0 p l e R s m args below meth c Q w D B0 v0 ph cd nL n0 ad0 r kn) (HR : zRm R w n0 d r) (ge : ∀ j ls st σ', kn j ls st σ' = some r → σ' 0 0 ≤ r.2 0 0) (KC : ∀ y' as σ' k c2 n2 pc' ls' st', kc y' as σ' k c2 n2 pc' ls' st' = some r → ∃ d' r', d = d' + 1 ∧ zMet l w D B0 v0 ph d' y' as σ' r' ∧ (zspread as).length ≤ zml y' ∧ σ' 0 0 ≤ r'.2 0 0 ∧ kn pc' ls' (zpush k c2 n2 r'.1 st') r'.2 = some r) (RT : r.2 = σ → decode b off = .ok (zrins (zkindOf ret), 1) → zvoks w (σ 0 0) (zpush (zkindOf ret) (zrtP y).1 (zrtP y).2 r.1 []) → zrng (zkindOf ret) r.1 → W p l e R s m args below meth c H locs (σ 0 0 - n0).toNat (zsl w (σ 0 0) - zsl w n0) Q (F0 m off lsC ((zpush (zkindOf ret) (zrtP y).1 (zrtP y).2 r.1 []).map (zcv ad v0)))) : W p l e R s m args below meth c H locs (σ 0 0 - n0).toNat (zsl w (σ 0 0) - zsl w n0) Q (F0 m off lsC (st.map (zcv ad v0))) := by
  have S := zST_of C G
  have N := zNX_of K G
  have hv := G.2.1
  have hlen := G.2.2.2.2.2.2.2.2.2
  have hd := Hd
  have ho := Ho
  exact zs_ldc2 C G K hax (hd rfl) (ho rfl) h
set_option maxRecDepth 100000 in
theorem zz_getfield {idx : Nat} (Hd : Nat.beq (zfalls (.getfield idx)) 2 = false → decode b off = .ok ((.getfield idx), zlenf (.getfield idx))) (Ho : zfalls (.getfield idx) = 0 → zoff cd (j + 1) = off + zlenf (.getfield idx)) {len : Nat} (hd0 : decode b off = .ok ((.getfield idx), len)) (hax : zaux cd y own ret ini (off, (.getfield idx), an, az) = true) (hxt : zxtra (off, (.getfield idx), an, az) = true) (h : zstp zarR ph (zK w) (zR w) zrd zup zcp kn kc (fun x m => some (x, m)) none j ls st σ ((.getfield idx)) an az = some r) (C : zCx p s m args c b nL own D B0) (G : zGd meth ini w D B0 v0 ph s nL n0 ad0 ad ca σ H locs lsC ls st) (K : zKt0 p l e R s m args below meth c Q w D B0 v0 ph cd nL n0 ad0 r kn) (HR : zRm R w n0 d r) (ge : ∀ j ls st σ', kn j ls st σ' = some r → σ' 0 0 ≤ r.2 0 0) (KC : ∀ y' as σ' k c2 n2 pc' ls' st', kc y' as σ' k c2 n2 pc' ls' st' = some r → ∃ d' r', d = d' + 1 ∧ zMet l w D B0 v0 ph d' y' as σ' r' ∧ (zspread as).length ≤ zml y' ∧ σ' 0 0 ≤ r'.2 0 0 ∧ kn pc' ls' (zpush k c2 n2 r'.1 st') r'.2 = some r) (RT : r.2 = σ → decode b off = .ok (zrins (zkindOf ret), 1) → zvoks w (σ 0 0) (zpush (zkindOf ret) (zrtP y).1 (zrtP y).2 r.1 []) → zrng (zkindOf ret) r.1 → W p l e R s m args below meth c H locs (σ 0 0 - n0).toNat (zsl w (σ 0 0) - zsl w n0) Q (F0 m off lsC ((zpush (zkindOf ret) (zrtP y).1 (zrtP y).2 r.1 []).map (zcv ad v0)))) : W p l e R s m args below meth c H locs (σ 0 0 - n0).toNat (zsl w (σ 0 0) - zsl w n0) Q (F0 m off lsC (st.map (zcv ad v0))) := by
  have S := zST_of C G
  have N := zNX_of K G
  have hv := G.2.1
  have hlen := G.2.2.2.2.2.2.2.2.2
  have hd := Hd
  have ho := Ho
  exact zs_getfield C G K hax hxt (hd rfl) (ho rfl) h
set_option maxRecDepth 100000 in
theorem zz_putfield {idx : Nat} (Hd : Nat.beq (zfalls (.putfield idx)) 2 = false → decode b off = .ok ((.putfield idx), zlenf (.putfield idx))) (Ho : zfalls (.putfield idx) = 0 → zoff cd (j + 1) = off + zlenf (.putfield idx)) {len : Nat} (hd0 : decode b off = .ok ((.putfield idx), len)) (hax : zaux cd y own ret ini (off, (.putfield idx), an, az) = true) (hxt : zxtra (off, (.putfield idx), an, az) = true) (h : zstp zarR ph (zK w) (zR w) zrd zup zcp kn kc (fun x m => some (x, m)) none j ls st σ ((.putfield idx)) an az = some r) (C : zCx p s m args c b nL own D B0) (G : zGd meth ini w D B0 v0 ph s nL n0 ad0 ad ca σ H locs lsC ls st) (K : zKt0 p l e R s m args below meth c Q w D B0 v0 ph cd nL n0 ad0 r kn) (HR : zRm R w n0 d r) (ge : ∀ j ls st σ', kn j ls st σ' = some r → σ' 0 0 ≤ r.2 0 0) (KC : ∀ y' as σ' k c2 n2 pc' ls' st', kc y' as σ' k c2 n2 pc' ls' st' = some r → ∃ d' r', d = d' + 1 ∧ zMet l w D B0 v0 ph d' y' as σ' r' ∧ (zspread as).length ≤ zml y' ∧ σ' 0 0 ≤ r'.2 0 0 ∧ kn pc' ls' (zpush k c2 n2 r'.1 st') r'.2 = some r) (RT : r.2 = σ → decode b off = .ok (zrins (zkindOf ret), 1) → zvoks w (σ 0 0) (zpush (zkindOf ret) (zrtP y).1 (zrtP y).2 r.1 []) → zrng (zkindOf ret) r.1 → W p l e R s m args below meth c H locs (σ 0 0 - n0).toNat (zsl w (σ 0 0) - zsl w n0) Q (F0 m off lsC ((zpush (zkindOf ret) (zrtP y).1 (zrtP y).2 r.1 []).map (zcv ad v0)))) : W p l e R s m args below meth c H locs (σ 0 0 - n0).toNat (zsl w (σ 0 0) - zsl w n0) Q (F0 m off lsC (st.map (zcv ad v0))) := by
  have S := zST_of C G
  have N := zNX_of K G
  have hv := G.2.1
  have hlen := G.2.2.2.2.2.2.2.2.2
  have hd := Hd
  have ho := Ho
  exact zs_putfield C G K hax (hd rfl) (ho rfl) h
set_option maxRecDepth 100000 in
theorem zz_getstatic {idx : Nat} (Hd : Nat.beq (zfalls (.getstatic idx)) 2 = false → decode b off = .ok ((.getstatic idx), zlenf (.getstatic idx))) (Ho : zfalls (.getstatic idx) = 0 → zoff cd (j + 1) = off + zlenf (.getstatic idx)) {len : Nat} (hd0 : decode b off = .ok ((.getstatic idx), len)) (hax : zaux cd y own ret ini (off, (.getstatic idx), an, az) = true) (hxt : zxtra (off, (.getstatic idx), an, az) = true) (h : zstp zarR ph (zK w) (zR w) zrd zup zcp kn kc (fun x m => some (x, m)) none j ls st σ ((.getstatic idx)) an az = some r) (C : zCx p s m args c b nL own D B0) (G : zGd meth ini w D B0 v0 ph s nL n0 ad0 ad ca σ H locs lsC ls st) (K : zKt0 p l e R s m args below meth c Q w D B0 v0 ph cd nL n0 ad0 r kn) (HR : zRm R w n0 d r) (ge : ∀ j ls st σ', kn j ls st σ' = some r → σ' 0 0 ≤ r.2 0 0) (KC : ∀ y' as σ' k c2 n2 pc' ls' st', kc y' as σ' k c2 n2 pc' ls' st' = some r → ∃ d' r', d = d' + 1 ∧ zMet l w D B0 v0 ph d' y' as σ' r' ∧ (zspread as).length ≤ zml y' ∧ σ' 0 0 ≤ r'.2 0 0 ∧ kn pc' ls' (zpush k c2 n2 r'.1 st') r'.2 = some r) (RT : r.2 = σ → decode b off = .ok (zrins (zkindOf ret), 1) → zvoks w (σ 0 0) (zpush (zkindOf ret) (zrtP y).1 (zrtP y).2 r.1 []) → zrng (zkindOf ret) r.1 → W p l e R s m args below meth c H locs (σ 0 0 - n0).toNat (zsl w (σ 0 0) - zsl w n0) Q (F0 m off lsC ((zpush (zkindOf ret) (zrtP y).1 (zrtP y).2 r.1 []).map (zcv ad v0)))) : W p l e R s m args below meth c H locs (σ 0 0 - n0).toNat (zsl w (σ 0 0) - zsl w n0) Q (F0 m off lsC (st.map (zcv ad v0))) := by
  have S := zST_of C G
  have N := zNX_of K G
  have hv := G.2.1
  have hlen := G.2.2.2.2.2.2.2.2.2
  have hd := Hd
  have ho := Ho
  exact zs_getstatic C G K hax (hd rfl) (ho rfl) h
set_option maxRecDepth 100000 in
theorem zz_iaload  (Hd : Nat.beq (zfalls (.iaload)) 2 = false → decode b off = .ok ((.iaload), zlenf (.iaload))) (Ho : zfalls (.iaload) = 0 → zoff cd (j + 1) = off + zlenf (.iaload)) {len : Nat} (hd0 : decode b off = .ok ((.iaload), len)) (hax : zaux cd y own ret ini (off, (.iaload), an, az) = true) (hxt : zxtra (off, (.iaload), an, az) = true) (h : zstp zarR ph (zK w) (zR w) zrd zup zcp kn kc (fun x m => some (x, m)) none j ls st σ ((.iaload)) an az = some r) (C : zCx p s m args c b nL own D B0) (G : zGd meth ini w D B0 v0 ph s nL n0 ad0 ad ca σ H locs lsC ls st) (K : zKt0 p l e R s m args below meth c Q w D B0 v0 ph cd nL n0 ad0 r kn) (HR : zRm R w n0 d r) (ge : ∀ j ls st σ', kn j ls st σ' = some r → σ' 0 0 ≤ r.2 0 0) (KC : ∀ y' as σ' k c2 n2 pc' ls' st', kc y' as σ' k c2 n2 pc' ls' st' = some r → ∃ d' r', d = d' + 1 ∧ zMet l w D B0 v0 ph d' y' as σ' r' ∧ (zspread as).length ≤ zml y' ∧ σ' 0 0 ≤ r'.2 0 0 ∧ kn pc' ls' (zpush k c2 n2 r'.1 st') r'.2 = some r) (RT : r.2 = σ → decode b off = .ok (zrins (zkindOf ret), 1) → zvoks w (σ 0 0) (zpush (zkindOf ret) (zrtP y).1 (zrtP y).2 r.1 []) → zrng (zkindOf ret) r.1 → W p l e R s m args below meth c H locs (σ 0 0 - n0).toNat (zsl w (σ 0 0) - zsl w n0) Q (F0 m off lsC ((zpush (zkindOf ret) (zrtP y).1 (zrtP y).2 r.1 []).map (zcv ad v0)))) : W p l e R s m args below meth c H locs (σ 0 0 - n0).toNat (zsl w (σ 0 0) - zsl w n0) Q (F0 m off lsC (st.map (zcv ad v0))) := by
  have S := zST_of C G
  have N := zNX_of K G
  have hv := G.2.1
  have hlen := G.2.2.2.2.2.2.2.2.2
  have hd := Hd
  have ho := Ho
  exact zs_iaload C G K (hd rfl) (ho rfl) h
set_option maxRecDepth 100000 in
theorem zz_baload  (Hd : Nat.beq (zfalls (.baload)) 2 = false → decode b off = .ok ((.baload), zlenf (.baload))) (Ho : zfalls (.baload) = 0 → zoff cd (j + 1) = off + zlenf (.baload)) {len : Nat} (hd0 : decode b off = .ok ((.baload), len)) (hax : zaux cd y own ret ini (off, (.baload), an, az) = true) (hxt : zxtra (off, (.baload), an, az) = true) (h : zstp zarR ph (zK w) (zR w) zrd zup zcp kn kc (fun x m => some (x, m)) none j ls st σ ((.baload)) an az = some r) (C : zCx p s m args c b nL own D B0) (G : zGd meth ini w D B0 v0 ph s nL n0 ad0 ad ca σ H locs lsC ls st) (K : zKt0 p l e R s m args below meth c Q w D B0 v0 ph cd nL n0 ad0 r kn) (HR : zRm R w n0 d r) (ge : ∀ j ls st σ', kn j ls st σ' = some r → σ' 0 0 ≤ r.2 0 0) (KC : ∀ y' as σ' k c2 n2 pc' ls' st', kc y' as σ' k c2 n2 pc' ls' st' = some r → ∃ d' r', d = d' + 1 ∧ zMet l w D B0 v0 ph d' y' as σ' r' ∧ (zspread as).length ≤ zml y' ∧ σ' 0 0 ≤ r'.2 0 0 ∧ kn pc' ls' (zpush k c2 n2 r'.1 st') r'.2 = some r) (RT : r.2 = σ → decode b off = .ok (zrins (zkindOf ret), 1) → zvoks w (σ 0 0) (zpush (zkindOf ret) (zrtP y).1 (zrtP y).2 r.1 []) → zrng (zkindOf ret) r.1 → W p l e R s m args below meth c H locs (σ 0 0 - n0).toNat (zsl w (σ 0 0) - zsl w n0) Q (F0 m off lsC ((zpush (zkindOf ret) (zrtP y).1 (zrtP y).2 r.1 []).map (zcv ad v0)))) : W p l e R s m args below meth c H locs (σ 0 0 - n0).toNat (zsl w (σ 0 0) - zsl w n0) Q (F0 m off lsC (st.map (zcv ad v0))) := by
  have S := zST_of C G
  have N := zNX_of K G
  have hv := G.2.1
  have hlen := G.2.2.2.2.2.2.2.2.2
  have hd := Hd
  have ho := Ho
  exact zs_baload C G K (hd rfl) (ho rfl) h
set_option maxRecDepth 100000 in
theorem zz_laload  (Hd : Nat.beq (zfalls (.laload)) 2 = false → decode b off = .ok ((.laload), zlenf (.laload))) (Ho : zfalls (.laload) = 0 → zoff cd (j + 1) = off + zlenf (.laload)) {len : Nat} (hd0 : decode b off = .ok ((.laload), len)) (hax : zaux cd y own ret ini (off, (.laload), an, az) = true) (hxt : zxtra (off, (.laload), an, az) = true) (h : zstp zarR ph (zK w) (zR w) zrd zup zcp kn kc (fun x m => some (x, m)) none j ls st σ ((.laload)) an az = some r) (C : zCx p s m args c b nL own D B0) (G : zGd meth ini w D B0 v0 ph s nL n0 ad0 ad ca σ H locs lsC ls st) (K : zKt0 p l e R s m args below meth c Q w D B0 v0 ph cd nL n0 ad0 r kn) (HR : zRm R w n0 d r) (ge : ∀ j ls st σ', kn j ls st σ' = some r → σ' 0 0 ≤ r.2 0 0) (KC : ∀ y' as σ' k c2 n2 pc' ls' st', kc y' as σ' k c2 n2 pc' ls' st' = some r → ∃ d' r', d = d' + 1 ∧ zMet l w D B0 v0 ph d' y' as σ' r' ∧ (zspread as).length ≤ zml y' ∧ σ' 0 0 ≤ r'.2 0 0 ∧ kn pc' ls' (zpush k c2 n2 r'.1 st') r'.2 = some r) (RT : r.2 = σ → decode b off = .ok (zrins (zkindOf ret), 1) → zvoks w (σ 0 0) (zpush (zkindOf ret) (zrtP y).1 (zrtP y).2 r.1 []) → zrng (zkindOf ret) r.1 → W p l e R s m args below meth c H locs (σ 0 0 - n0).toNat (zsl w (σ 0 0) - zsl w n0) Q (F0 m off lsC ((zpush (zkindOf ret) (zrtP y).1 (zrtP y).2 r.1 []).map (zcv ad v0)))) : W p l e R s m args below meth c H locs (σ 0 0 - n0).toNat (zsl w (σ 0 0) - zsl w n0) Q (F0 m off lsC (st.map (zcv ad v0))) := by
  have S := zST_of C G
  have N := zNX_of K G
  have hv := G.2.1
  have hlen := G.2.2.2.2.2.2.2.2.2
  have hd := Hd
  have ho := Ho
  exact zs_laload C G K (hd rfl) (ho rfl) h
set_option maxRecDepth 100000 in
theorem zz_aaload  (Hd : Nat.beq (zfalls (.aaload)) 2 = false → decode b off = .ok ((.aaload), zlenf (.aaload))) (Ho : zfalls (.aaload) = 0 → zoff cd (j + 1) = off + zlenf (.aaload)) {len : Nat} (hd0 : decode b off = .ok ((.aaload), len)) (hax : zaux cd y own ret ini (off, (.aaload), an, az) = true) (hxt : zxtra (off, (.aaload), an, az) = true) (h : zstp zarR ph (zK w) (zR w) zrd zup zcp kn kc (fun x m => some (x, m)) none j ls st σ ((.aaload)) an az = some r) (C : zCx p s m args c b nL own D B0) (G : zGd meth ini w D B0 v0 ph s nL n0 ad0 ad ca σ H locs lsC ls st) (K : zKt0 p l e R s m args below meth c Q w D B0 v0 ph cd nL n0 ad0 r kn) (HR : zRm R w n0 d r) (ge : ∀ j ls st σ', kn j ls st σ' = some r → σ' 0 0 ≤ r.2 0 0) (KC : ∀ y' as σ' k c2 n2 pc' ls' st', kc y' as σ' k c2 n2 pc' ls' st' = some r → ∃ d' r', d = d' + 1 ∧ zMet l w D B0 v0 ph d' y' as σ' r' ∧ (zspread as).length ≤ zml y' ∧ σ' 0 0 ≤ r'.2 0 0 ∧ kn pc' ls' (zpush k c2 n2 r'.1 st') r'.2 = some r) (RT : r.2 = σ → decode b off = .ok (zrins (zkindOf ret), 1) → zvoks w (σ 0 0) (zpush (zkindOf ret) (zrtP y).1 (zrtP y).2 r.1 []) → zrng (zkindOf ret) r.1 → W p l e R s m args below meth c H locs (σ 0 0 - n0).toNat (zsl w (σ 0 0) - zsl w n0) Q (F0 m off lsC ((zpush (zkindOf ret) (zrtP y).1 (zrtP y).2 r.1 []).map (zcv ad v0)))) : W p l e R s m args below meth c H locs (σ 0 0 - n0).toNat (zsl w (σ 0 0) - zsl w n0) Q (F0 m off lsC (st.map (zcv ad v0))) := by
  have S := zST_of C G
  have N := zNX_of K G
  have hv := G.2.1
  have hlen := G.2.2.2.2.2.2.2.2.2
  have hd := Hd
  have ho := Ho
  exact zs_aaload C G K (hd rfl) (ho rfl) h
set_option maxRecDepth 100000 in
theorem zz_iastore  (Hd : Nat.beq (zfalls (.iastore)) 2 = false → decode b off = .ok ((.iastore), zlenf (.iastore))) (Ho : zfalls (.iastore) = 0 → zoff cd (j + 1) = off + zlenf (.iastore)) {len : Nat} (hd0 : decode b off = .ok ((.iastore), len)) (hax : zaux cd y own ret ini (off, (.iastore), an, az) = true) (hxt : zxtra (off, (.iastore), an, az) = true) (h : zstp zarR ph (zK w) (zR w) zrd zup zcp kn kc (fun x m => some (x, m)) none j ls st σ ((.iastore)) an az = some r) (C : zCx p s m args c b nL own D B0) (G : zGd meth ini w D B0 v0 ph s nL n0 ad0 ad ca σ H locs lsC ls st) (K : zKt0 p l e R s m args below meth c Q w D B0 v0 ph cd nL n0 ad0 r kn) (HR : zRm R w n0 d r) (ge : ∀ j ls st σ', kn j ls st σ' = some r → σ' 0 0 ≤ r.2 0 0) (KC : ∀ y' as σ' k c2 n2 pc' ls' st', kc y' as σ' k c2 n2 pc' ls' st' = some r → ∃ d' r', d = d' + 1 ∧ zMet l w D B0 v0 ph d' y' as σ' r' ∧ (zspread as).length ≤ zml y' ∧ σ' 0 0 ≤ r'.2 0 0 ∧ kn pc' ls' (zpush k c2 n2 r'.1 st') r'.2 = some r) (RT : r.2 = σ → decode b off = .ok (zrins (zkindOf ret), 1) → zvoks w (σ 0 0) (zpush (zkindOf ret) (zrtP y).1 (zrtP y).2 r.1 []) → zrng (zkindOf ret) r.1 → W p l e R s m args below meth c H locs (σ 0 0 - n0).toNat (zsl w (σ 0 0) - zsl w n0) Q (F0 m off lsC ((zpush (zkindOf ret) (zrtP y).1 (zrtP y).2 r.1 []).map (zcv ad v0)))) : W p l e R s m args below meth c H locs (σ 0 0 - n0).toNat (zsl w (σ 0 0) - zsl w n0) Q (F0 m off lsC (st.map (zcv ad v0))) := by
  have S := zST_of C G
  have N := zNX_of K G
  have hv := G.2.1
  have hlen := G.2.2.2.2.2.2.2.2.2
  have hd := Hd
  have ho := Ho
  exact zs_iastore C G K (hd rfl) (ho rfl) h
set_option maxRecDepth 100000 in
theorem zz_bastore  (Hd : Nat.beq (zfalls (.bastore)) 2 = false → decode b off = .ok ((.bastore), zlenf (.bastore))) (Ho : zfalls (.bastore) = 0 → zoff cd (j + 1) = off + zlenf (.bastore)) {len : Nat} (hd0 : decode b off = .ok ((.bastore), len)) (hax : zaux cd y own ret ini (off, (.bastore), an, az) = true) (hxt : zxtra (off, (.bastore), an, az) = true) (h : zstp zarR ph (zK w) (zR w) zrd zup zcp kn kc (fun x m => some (x, m)) none j ls st σ ((.bastore)) an az = some r) (C : zCx p s m args c b nL own D B0) (G : zGd meth ini w D B0 v0 ph s nL n0 ad0 ad ca σ H locs lsC ls st) (K : zKt0 p l e R s m args below meth c Q w D B0 v0 ph cd nL n0 ad0 r kn) (HR : zRm R w n0 d r) (ge : ∀ j ls st σ', kn j ls st σ' = some r → σ' 0 0 ≤ r.2 0 0) (KC : ∀ y' as σ' k c2 n2 pc' ls' st', kc y' as σ' k c2 n2 pc' ls' st' = some r → ∃ d' r', d = d' + 1 ∧ zMet l w D B0 v0 ph d' y' as σ' r' ∧ (zspread as).length ≤ zml y' ∧ σ' 0 0 ≤ r'.2 0 0 ∧ kn pc' ls' (zpush k c2 n2 r'.1 st') r'.2 = some r) (RT : r.2 = σ → decode b off = .ok (zrins (zkindOf ret), 1) → zvoks w (σ 0 0) (zpush (zkindOf ret) (zrtP y).1 (zrtP y).2 r.1 []) → zrng (zkindOf ret) r.1 → W p l e R s m args below meth c H locs (σ 0 0 - n0).toNat (zsl w (σ 0 0) - zsl w n0) Q (F0 m off lsC ((zpush (zkindOf ret) (zrtP y).1 (zrtP y).2 r.1 []).map (zcv ad v0)))) : W p l e R s m args below meth c H locs (σ 0 0 - n0).toNat (zsl w (σ 0 0) - zsl w n0) Q (F0 m off lsC (st.map (zcv ad v0))) := by
  have S := zST_of C G
  have N := zNX_of K G
  have hv := G.2.1
  have hlen := G.2.2.2.2.2.2.2.2.2
  have hd := Hd
  have ho := Ho
  exact zs_bastore C G K (hd rfl) (ho rfl) h
set_option maxRecDepth 100000 in
theorem zz_lastore  (Hd : Nat.beq (zfalls (.lastore)) 2 = false → decode b off = .ok ((.lastore), zlenf (.lastore))) (Ho : zfalls (.lastore) = 0 → zoff cd (j + 1) = off + zlenf (.lastore)) {len : Nat} (hd0 : decode b off = .ok ((.lastore), len)) (hax : zaux cd y own ret ini (off, (.lastore), an, az) = true) (hxt : zxtra (off, (.lastore), an, az) = true) (h : zstp zarR ph (zK w) (zR w) zrd zup zcp kn kc (fun x m => some (x, m)) none j ls st σ ((.lastore)) an az = some r) (C : zCx p s m args c b nL own D B0) (G : zGd meth ini w D B0 v0 ph s nL n0 ad0 ad ca σ H locs lsC ls st) (K : zKt0 p l e R s m args below meth c Q w D B0 v0 ph cd nL n0 ad0 r kn) (HR : zRm R w n0 d r) (ge : ∀ j ls st σ', kn j ls st σ' = some r → σ' 0 0 ≤ r.2 0 0) (KC : ∀ y' as σ' k c2 n2 pc' ls' st', kc y' as σ' k c2 n2 pc' ls' st' = some r → ∃ d' r', d = d' + 1 ∧ zMet l w D B0 v0 ph d' y' as σ' r' ∧ (zspread as).length ≤ zml y' ∧ σ' 0 0 ≤ r'.2 0 0 ∧ kn pc' ls' (zpush k c2 n2 r'.1 st') r'.2 = some r) (RT : r.2 = σ → decode b off = .ok (zrins (zkindOf ret), 1) → zvoks w (σ 0 0) (zpush (zkindOf ret) (zrtP y).1 (zrtP y).2 r.1 []) → zrng (zkindOf ret) r.1 → W p l e R s m args below meth c H locs (σ 0 0 - n0).toNat (zsl w (σ 0 0) - zsl w n0) Q (F0 m off lsC ((zpush (zkindOf ret) (zrtP y).1 (zrtP y).2 r.1 []).map (zcv ad v0)))) : W p l e R s m args below meth c H locs (σ 0 0 - n0).toNat (zsl w (σ 0 0) - zsl w n0) Q (F0 m off lsC (st.map (zcv ad v0))) := by
  have S := zST_of C G
  have N := zNX_of K G
  have hv := G.2.1
  have hlen := G.2.2.2.2.2.2.2.2.2
  have hd := Hd
  have ho := Ho
  exact zs_lastore C G K (hd rfl) (ho rfl) h
set_option maxRecDepth 100000 in
theorem zz_aastore  (Hd : Nat.beq (zfalls (.aastore)) 2 = false → decode b off = .ok ((.aastore), zlenf (.aastore))) (Ho : zfalls (.aastore) = 0 → zoff cd (j + 1) = off + zlenf (.aastore)) {len : Nat} (hd0 : decode b off = .ok ((.aastore), len)) (hax : zaux cd y own ret ini (off, (.aastore), an, az) = true) (hxt : zxtra (off, (.aastore), an, az) = true) (h : zstp zarR ph (zK w) (zR w) zrd zup zcp kn kc (fun x m => some (x, m)) none j ls st σ ((.aastore)) an az = some r) (C : zCx p s m args c b nL own D B0) (G : zGd meth ini w D B0 v0 ph s nL n0 ad0 ad ca σ H locs lsC ls st) (K : zKt0 p l e R s m args below meth c Q w D B0 v0 ph cd nL n0 ad0 r kn) (HR : zRm R w n0 d r) (ge : ∀ j ls st σ', kn j ls st σ' = some r → σ' 0 0 ≤ r.2 0 0) (KC : ∀ y' as σ' k c2 n2 pc' ls' st', kc y' as σ' k c2 n2 pc' ls' st' = some r → ∃ d' r', d = d' + 1 ∧ zMet l w D B0 v0 ph d' y' as σ' r' ∧ (zspread as).length ≤ zml y' ∧ σ' 0 0 ≤ r'.2 0 0 ∧ kn pc' ls' (zpush k c2 n2 r'.1 st') r'.2 = some r) (RT : r.2 = σ → decode b off = .ok (zrins (zkindOf ret), 1) → zvoks w (σ 0 0) (zpush (zkindOf ret) (zrtP y).1 (zrtP y).2 r.1 []) → zrng (zkindOf ret) r.1 → W p l e R s m args below meth c H locs (σ 0 0 - n0).toNat (zsl w (σ 0 0) - zsl w n0) Q (F0 m off lsC ((zpush (zkindOf ret) (zrtP y).1 (zrtP y).2 r.1 []).map (zcv ad v0)))) : W p l e R s m args below meth c H locs (σ 0 0 - n0).toNat (zsl w (σ 0 0) - zsl w n0) Q (F0 m off lsC (st.map (zcv ad v0))) := by
  have S := zST_of C G
  have N := zNX_of K G
  have hv := G.2.1
  have hlen := G.2.2.2.2.2.2.2.2.2
  have hd := Hd
  have ho := Ho
  exact zs_aastore C G K (hd rfl) (ho rfl) h
set_option maxRecDepth 100000 in
theorem zz_arraylength  (Hd : Nat.beq (zfalls (.arraylength)) 2 = false → decode b off = .ok ((.arraylength), zlenf (.arraylength))) (Ho : zfalls (.arraylength) = 0 → zoff cd (j + 1) = off + zlenf (.arraylength)) {len : Nat} (hd0 : decode b off = .ok ((.arraylength), len)) (hax : zaux cd y own ret ini (off, (.arraylength), an, az) = true) (hxt : zxtra (off, (.arraylength), an, az) = true) (h : zstp zarR ph (zK w) (zR w) zrd zup zcp kn kc (fun x m => some (x, m)) none j ls st σ ((.arraylength)) an az = some r) (C : zCx p s m args c b nL own D B0) (G : zGd meth ini w D B0 v0 ph s nL n0 ad0 ad ca σ H locs lsC ls st) (K : zKt0 p l e R s m args below meth c Q w D B0 v0 ph cd nL n0 ad0 r kn) (HR : zRm R w n0 d r) (ge : ∀ j ls st σ', kn j ls st σ' = some r → σ' 0 0 ≤ r.2 0 0) (KC : ∀ y' as σ' k c2 n2 pc' ls' st', kc y' as σ' k c2 n2 pc' ls' st' = some r → ∃ d' r', d = d' + 1 ∧ zMet l w D B0 v0 ph d' y' as σ' r' ∧ (zspread as).length ≤ zml y' ∧ σ' 0 0 ≤ r'.2 0 0 ∧ kn pc' ls' (zpush k c2 n2 r'.1 st') r'.2 = some r) (RT : r.2 = σ → decode b off = .ok (zrins (zkindOf ret), 1) → zvoks w (σ 0 0) (zpush (zkindOf ret) (zrtP y).1 (zrtP y).2 r.1 []) → zrng (zkindOf ret) r.1 → W p l e R s m args below meth c H locs (σ 0 0 - n0).toNat (zsl w (σ 0 0) - zsl w n0) Q (F0 m off lsC ((zpush (zkindOf ret) (zrtP y).1 (zrtP y).2 r.1 []).map (zcv ad v0)))) : W p l e R s m args below meth c H locs (σ 0 0 - n0).toNat (zsl w (σ 0 0) - zsl w n0) Q (F0 m off lsC (st.map (zcv ad v0))) := by
  have S := zST_of C G
  have N := zNX_of K G
  have hv := G.2.1
  have hlen := G.2.2.2.2.2.2.2.2.2
  have hd := Hd
  have ho := Ho
  exact zs_alen C G K (hd rfl) (ho rfl) h
set_option maxRecDepth 100000 in
theorem zz_new {idx : Nat} (Hd : Nat.beq (zfalls (.new idx)) 2 = false → decode b off = .ok ((.new idx), zlenf (.new idx))) (Ho : zfalls (.new idx) = 0 → zoff cd (j + 1) = off + zlenf (.new idx)) {len : Nat} (hd0 : decode b off = .ok ((.new idx), len)) (hax : zaux cd y own ret ini (off, (.new idx), an, az) = true) (hxt : zxtra (off, (.new idx), an, az) = true) (h : zstp zarR ph (zK w) (zR w) zrd zup zcp kn kc (fun x m => some (x, m)) none j ls st σ ((.new idx)) an az = some r) (C : zCx p s m args c b nL own D B0) (G : zGd meth ini w D B0 v0 ph s nL n0 ad0 ad ca σ H locs lsC ls st) (K : zKt0 p l e R s m args below meth c Q w D B0 v0 ph cd nL n0 ad0 r kn) (HR : zRm R w n0 d r) (ge : ∀ j ls st σ', kn j ls st σ' = some r → σ' 0 0 ≤ r.2 0 0) (KC : ∀ y' as σ' k c2 n2 pc' ls' st', kc y' as σ' k c2 n2 pc' ls' st' = some r → ∃ d' r', d = d' + 1 ∧ zMet l w D B0 v0 ph d' y' as σ' r' ∧ (zspread as).length ≤ zml y' ∧ σ' 0 0 ≤ r'.2 0 0 ∧ kn pc' ls' (zpush k c2 n2 r'.1 st') r'.2 = some r) (RT : r.2 = σ → decode b off = .ok (zrins (zkindOf ret), 1) → zvoks w (σ 0 0) (zpush (zkindOf ret) (zrtP y).1 (zrtP y).2 r.1 []) → zrng (zkindOf ret) r.1 → W p l e R s m args below meth c H locs (σ 0 0 - n0).toNat (zsl w (σ 0 0) - zsl w n0) Q (F0 m off lsC ((zpush (zkindOf ret) (zrtP y).1 (zrtP y).2 r.1 []).map (zcv ad v0)))) : W p l e R s m args below meth c H locs (σ 0 0 - n0).toNat (zsl w (σ 0 0) - zsl w n0) Q (F0 m off lsC (st.map (zcv ad v0))) := by
  have S := zST_of C G
  have N := zNX_of K G
  have hv := G.2.1
  have hlen := G.2.2.2.2.2.2.2.2.2
  have hd := Hd
  have ho := Ho
  exact zs_new C G K HR ge hax (hd rfl) (ho rfl) h
set_option maxRecDepth 100000 in
theorem zz_newarray {t : ArrayType} (Hd : Nat.beq (zfalls (.newarray t)) 2 = false → decode b off = .ok ((.newarray t), zlenf (.newarray t))) (Ho : zfalls (.newarray t) = 0 → zoff cd (j + 1) = off + zlenf (.newarray t)) {len : Nat} (hd0 : decode b off = .ok ((.newarray t), len)) (hax : zaux cd y own ret ini (off, (.newarray t), an, az) = true) (hxt : zxtra (off, (.newarray t), an, az) = true) (h : zstp zarR ph (zK w) (zR w) zrd zup zcp kn kc (fun x m => some (x, m)) none j ls st σ ((.newarray t)) an az = some r) (C : zCx p s m args c b nL own D B0) (G : zGd meth ini w D B0 v0 ph s nL n0 ad0 ad ca σ H locs lsC ls st) (K : zKt0 p l e R s m args below meth c Q w D B0 v0 ph cd nL n0 ad0 r kn) (HR : zRm R w n0 d r) (ge : ∀ j ls st σ', kn j ls st σ' = some r → σ' 0 0 ≤ r.2 0 0) (KC : ∀ y' as σ' k c2 n2 pc' ls' st', kc y' as σ' k c2 n2 pc' ls' st' = some r → ∃ d' r', d = d' + 1 ∧ zMet l w D B0 v0 ph d' y' as σ' r' ∧ (zspread as).length ≤ zml y' ∧ σ' 0 0 ≤ r'.2 0 0 ∧ kn pc' ls' (zpush k c2 n2 r'.1 st') r'.2 = some r) (RT : r.2 = σ → decode b off = .ok (zrins (zkindOf ret), 1) → zvoks w (σ 0 0) (zpush (zkindOf ret) (zrtP y).1 (zrtP y).2 r.1 []) → zrng (zkindOf ret) r.1 → W p l e R s m args below meth c H locs (σ 0 0 - n0).toNat (zsl w (σ 0 0) - zsl w n0) Q (F0 m off lsC ((zpush (zkindOf ret) (zrtP y).1 (zrtP y).2 r.1 []).map (zcv ad v0)))) : W p l e R s m args below meth c H locs (σ 0 0 - n0).toNat (zsl w (σ 0 0) - zsl w n0) Q (F0 m off lsC (st.map (zcv ad v0))) := by
  have S := zST_of C G
  have N := zNX_of K G
  have hv := G.2.1
  have hlen := G.2.2.2.2.2.2.2.2.2
  have hd := Hd
  have ho := Ho
  exact zs_newarray C G K HR ge hax (hd rfl) (ho rfl) h
set_option maxRecDepth 100000 in
theorem zz_anewarray {idx : Nat} (Hd : Nat.beq (zfalls (.anewarray idx)) 2 = false → decode b off = .ok ((.anewarray idx), zlenf (.anewarray idx))) (Ho : zfalls (.anewarray idx) = 0 → zoff cd (j + 1) = off + zlenf (.anewarray idx)) {len : Nat} (hd0 : decode b off = .ok ((.anewarray idx), len)) (hax : zaux cd y own ret ini (off, (.anewarray idx), an, az) = true) (hxt : zxtra (off, (.anewarray idx), an, az) = true) (h : zstp zarR ph (zK w) (zR w) zrd zup zcp kn kc (fun x m => some (x, m)) none j ls st σ ((.anewarray idx)) an az = some r) (C : zCx p s m args c b nL own D B0) (G : zGd meth ini w D B0 v0 ph s nL n0 ad0 ad ca σ H locs lsC ls st) (K : zKt0 p l e R s m args below meth c Q w D B0 v0 ph cd nL n0 ad0 r kn) (HR : zRm R w n0 d r) (ge : ∀ j ls st σ', kn j ls st σ' = some r → σ' 0 0 ≤ r.2 0 0) (KC : ∀ y' as σ' k c2 n2 pc' ls' st', kc y' as σ' k c2 n2 pc' ls' st' = some r → ∃ d' r', d = d' + 1 ∧ zMet l w D B0 v0 ph d' y' as σ' r' ∧ (zspread as).length ≤ zml y' ∧ σ' 0 0 ≤ r'.2 0 0 ∧ kn pc' ls' (zpush k c2 n2 r'.1 st') r'.2 = some r) (RT : r.2 = σ → decode b off = .ok (zrins (zkindOf ret), 1) → zvoks w (σ 0 0) (zpush (zkindOf ret) (zrtP y).1 (zrtP y).2 r.1 []) → zrng (zkindOf ret) r.1 → W p l e R s m args below meth c H locs (σ 0 0 - n0).toNat (zsl w (σ 0 0) - zsl w n0) Q (F0 m off lsC ((zpush (zkindOf ret) (zrtP y).1 (zrtP y).2 r.1 []).map (zcv ad v0)))) : W p l e R s m args below meth c H locs (σ 0 0 - n0).toNat (zsl w (σ 0 0) - zsl w n0) Q (F0 m off lsC (st.map (zcv ad v0))) := by
  have S := zST_of C G
  have N := zNX_of K G
  have hv := G.2.1
  have hlen := G.2.2.2.2.2.2.2.2.2
  have hd := Hd
  have ho := Ho
  exact zs_anewarray C G K HR ge hax (hd rfl) (ho rfl) h
set_option maxRecDepth 100000 in
theorem zz_multianewarray {idx : Nat} {n : Nat} (Hd : Nat.beq (zfalls (.multianewarray idx n)) 2 = false → decode b off = .ok ((.multianewarray idx n), zlenf (.multianewarray idx n))) (Ho : zfalls (.multianewarray idx n) = 0 → zoff cd (j + 1) = off + zlenf (.multianewarray idx n)) {len : Nat} (hd0 : decode b off = .ok ((.multianewarray idx n), len)) (hax : zaux cd y own ret ini (off, (.multianewarray idx n), an, az) = true) (hxt : zxtra (off, (.multianewarray idx n), an, az) = true) (h : zstp zarR ph (zK w) (zR w) zrd zup zcp kn kc (fun x m => some (x, m)) none j ls st σ ((.multianewarray idx n)) an az = some r) (C : zCx p s m args c b nL own D B0) (G : zGd meth ini w D B0 v0 ph s nL n0 ad0 ad ca σ H locs lsC ls st) (K : zKt0 p l e R s m args below meth c Q w D B0 v0 ph cd nL n0 ad0 r kn) (HR : zRm R w n0 d r) (ge : ∀ j ls st σ', kn j ls st σ' = some r → σ' 0 0 ≤ r.2 0 0) (KC : ∀ y' as σ' k c2 n2 pc' ls' st', kc y' as σ' k c2 n2 pc' ls' st' = some r → ∃ d' r', d = d' + 1 ∧ zMet l w D B0 v0 ph d' y' as σ' r' ∧ (zspread as).length ≤ zml y' ∧ σ' 0 0 ≤ r'.2 0 0 ∧ kn pc' ls' (zpush k c2 n2 r'.1 st') r'.2 = some r) (RT : r.2 = σ → decode b off = .ok (zrins (zkindOf ret), 1) → zvoks w (σ 0 0) (zpush (zkindOf ret) (zrtP y).1 (zrtP y).2 r.1 []) → zrng (zkindOf ret) r.1 → W p l e R s m args below meth c H locs (σ 0 0 - n0).toNat (zsl w (σ 0 0) - zsl w n0) Q (F0 m off lsC ((zpush (zkindOf ret) (zrtP y).1 (zrtP y).2 r.1 []).map (zcv ad v0)))) : W p l e R s m args below meth c H locs (σ 0 0 - n0).toNat (zsl w (σ 0 0) - zsl w n0) Q (F0 m off lsC (st.map (zcv ad v0))) := by
  have S := zST_of C G
  have N := zNX_of K G
  have hv := G.2.1
  have hlen := G.2.2.2.2.2.2.2.2.2
  have hd := Hd
  have ho := Ho
  exact zs_mna C G K HR ge hax (hd rfl) (ho rfl) h
set_option maxRecDepth 100000 in
theorem zz_invokevirtual {idx : Nat} (Hd : Nat.beq (zfalls (.invokevirtual idx)) 2 = false → decode b off = .ok ((.invokevirtual idx), zlenf (.invokevirtual idx))) (Ho : zfalls (.invokevirtual idx) = 0 → zoff cd (j + 1) = off + zlenf (.invokevirtual idx)) {len : Nat} (hd0 : decode b off = .ok ((.invokevirtual idx), len)) (hax : zaux cd y own ret ini (off, (.invokevirtual idx), an, az) = true) (hxt : zxtra (off, (.invokevirtual idx), an, az) = true) (h : zstp zarR ph (zK w) (zR w) zrd zup zcp kn kc (fun x m => some (x, m)) none j ls st σ ((.invokevirtual idx)) an az = some r) (C : zCx p s m args c b nL own D B0) (G : zGd meth ini w D B0 v0 ph s nL n0 ad0 ad ca σ H locs lsC ls st) (K : zKt0 p l e R s m args below meth c Q w D B0 v0 ph cd nL n0 ad0 r kn) (HR : zRm R w n0 d r) (ge : ∀ j ls st σ', kn j ls st σ' = some r → σ' 0 0 ≤ r.2 0 0) (KC : ∀ y' as σ' k c2 n2 pc' ls' st', kc y' as σ' k c2 n2 pc' ls' st' = some r → ∃ d' r', d = d' + 1 ∧ zMet l w D B0 v0 ph d' y' as σ' r' ∧ (zspread as).length ≤ zml y' ∧ σ' 0 0 ≤ r'.2 0 0 ∧ kn pc' ls' (zpush k c2 n2 r'.1 st') r'.2 = some r) (RT : r.2 = σ → decode b off = .ok (zrins (zkindOf ret), 1) → zvoks w (σ 0 0) (zpush (zkindOf ret) (zrtP y).1 (zrtP y).2 r.1 []) → zrng (zkindOf ret) r.1 → W p l e R s m args below meth c H locs (σ 0 0 - n0).toNat (zsl w (σ 0 0) - zsl w n0) Q (F0 m off lsC ((zpush (zkindOf ret) (zrtP y).1 (zrtP y).2 r.1 []).map (zcv ad v0)))) : W p l e R s m args below meth c H locs (σ 0 0 - n0).toNat (zsl w (σ 0 0) - zsl w n0) Q (F0 m off lsC (st.map (zcv ad v0))) := by
  have S := zST_of C G
  have N := zNX_of K G
  have hv := G.2.1
  have hlen := G.2.2.2.2.2.2.2.2.2
  have hd := Hd
  have ho := Ho
  have hd := hd rfl
  have ho := ho rfl
  dsimp only [zstp] at h
  split at h
  · unfold zaux at hax
    dsimp only [List.isEmpty] at hax
    rw [Bool.false_or] at hax
    have hent := hax
    exact zs_inst C G K HR ge KC hent (Or.inl ⟨rfl, zvl_ok _ (zmem_in hxt)⟩) hd ho h
  · cases h
set_option maxRecDepth 100000 in
theorem zz_invokespecial {idx : Nat} (Hd : Nat.beq (zfalls (.invokespecial idx)) 2 = false → decode b off = .ok ((.invokespecial idx), zlenf (.invokespecial idx))) (Ho : zfalls (.invokespecial idx) = 0 → zoff cd (j + 1) = off + zlenf (.invokespecial idx)) {len : Nat} (hd0 : decode b off = .ok ((.invokespecial idx), len)) (hax : zaux cd y own ret ini (off, (.invokespecial idx), an, az) = true) (hxt : zxtra (off, (.invokespecial idx), an, az) = true) (h : zstp zarR ph (zK w) (zR w) zrd zup zcp kn kc (fun x m => some (x, m)) none j ls st σ ((.invokespecial idx)) an az = some r) (C : zCx p s m args c b nL own D B0) (G : zGd meth ini w D B0 v0 ph s nL n0 ad0 ad ca σ H locs lsC ls st) (K : zKt0 p l e R s m args below meth c Q w D B0 v0 ph cd nL n0 ad0 r kn) (HR : zRm R w n0 d r) (ge : ∀ j ls st σ', kn j ls st σ' = some r → σ' 0 0 ≤ r.2 0 0) (KC : ∀ y' as σ' k c2 n2 pc' ls' st', kc y' as σ' k c2 n2 pc' ls' st' = some r → ∃ d' r', d = d' + 1 ∧ zMet l w D B0 v0 ph d' y' as σ' r' ∧ (zspread as).length ≤ zml y' ∧ σ' 0 0 ≤ r'.2 0 0 ∧ kn pc' ls' (zpush k c2 n2 r'.1 st') r'.2 = some r) (RT : r.2 = σ → decode b off = .ok (zrins (zkindOf ret), 1) → zvoks w (σ 0 0) (zpush (zkindOf ret) (zrtP y).1 (zrtP y).2 r.1 []) → zrng (zkindOf ret) r.1 → W p l e R s m args below meth c H locs (σ 0 0 - n0).toNat (zsl w (σ 0 0) - zsl w n0) Q (F0 m off lsC ((zpush (zkindOf ret) (zrtP y).1 (zrtP y).2 r.1 []).map (zcv ad v0)))) : W p l e R s m args below meth c H locs (σ 0 0 - n0).toNat (zsl w (σ 0 0) - zsl w n0) Q (F0 m off lsC (st.map (zcv ad v0))) := by
  have S := zST_of C G
  have N := zNX_of K G
  have hv := G.2.1
  have hlen := G.2.2.2.2.2.2.2.2.2
  have hd := Hd
  have ho := Ho
  have hd := hd rfl
  have ho := ho rfl
  dsimp only [zstp] at h
  split at h
  · have hax : (decide ((own, idx) ∈ zobjs) && ini) = true := hax
    simp only [Bool.and_eq_true, decide_eq_true_eq] at hax
    exact zs_objinit C G K HR hax.1 hd ho h
  · rename_i e0 yy n c2 n2 cr
    unfold zaux at hax
    dsimp only at hax
    simp only [Bool.and_eq_true] at hax
    exact zs_inst C G K HR ge KC hax.1 (Or.inr ⟨rfl, zmem_in hxt⟩) hd ho h
  · cases h
set_option maxRecDepth 100000 in
theorem zz_invokestatic {idx : Nat} (Hd : Nat.beq (zfalls (.invokestatic idx)) 2 = false → decode b off = .ok ((.invokestatic idx), zlenf (.invokestatic idx))) (Ho : zfalls (.invokestatic idx) = 0 → zoff cd (j + 1) = off + zlenf (.invokestatic idx)) {len : Nat} (hd0 : decode b off = .ok ((.invokestatic idx), len)) (hax : zaux cd y own ret ini (off, (.invokestatic idx), an, az) = true) (hxt : zxtra (off, (.invokestatic idx), an, az) = true) (h : zstp zarR ph (zK w) (zR w) zrd zup zcp kn kc (fun x m => some (x, m)) none j ls st σ ((.invokestatic idx)) an az = some r) (C : zCx p s m args c b nL own D B0) (G : zGd meth ini w D B0 v0 ph s nL n0 ad0 ad ca σ H locs lsC ls st) (K : zKt0 p l e R s m args below meth c Q w D B0 v0 ph cd nL n0 ad0 r kn) (HR : zRm R w n0 d r) (ge : ∀ j ls st σ', kn j ls st σ' = some r → σ' 0 0 ≤ r.2 0 0) (KC : ∀ y' as σ' k c2 n2 pc' ls' st', kc y' as σ' k c2 n2 pc' ls' st' = some r → ∃ d' r', d = d' + 1 ∧ zMet l w D B0 v0 ph d' y' as σ' r' ∧ (zspread as).length ≤ zml y' ∧ σ' 0 0 ≤ r'.2 0 0 ∧ kn pc' ls' (zpush k c2 n2 r'.1 st') r'.2 = some r) (RT : r.2 = σ → decode b off = .ok (zrins (zkindOf ret), 1) → zvoks w (σ 0 0) (zpush (zkindOf ret) (zrtP y).1 (zrtP y).2 r.1 []) → zrng (zkindOf ret) r.1 → W p l e R s m args below meth c H locs (σ 0 0 - n0).toNat (zsl w (σ 0 0) - zsl w n0) Q (F0 m off lsC ((zpush (zkindOf ret) (zrtP y).1 (zrtP y).2 r.1 []).map (zcv ad v0)))) : W p l e R s m args below meth c H locs (σ 0 0 - n0).toNat (zsl w (σ 0 0) - zsl w n0) Q (F0 m off lsC (st.map (zcv ad v0))) := by
  have S := zST_of C G
  have N := zNX_of K G
  have hv := G.2.1
  have hlen := G.2.2.2.2.2.2.2.2.2
  have hd := Hd
  have ho := Ho
  have hd := hd rfl
  have ho := ho rfl
  dsimp only [zstp] at h
  split at h
  · have hax : decide ((own, idx) ∈ zcpys) = true := hax
    split at h
    · rename_i n dp c2 n2 bb sp c1 n1 a st'
      obtain ⟨hc, h3⟩ := zite_some h
      exact zs_cpy C G K HR rfl (of_decide_eq_true hax) hd ho hc h3
    · cases h
  · unfold zaux at hax
    dsimp only at hax
    split at hax
    · rename_i heq; cases heq
    · rename_i heq; cases heq
    · exact zs_static C G K HR ge KC hax hd ho h
  · cases h
set_option maxRecDepth 100000 in
theorem zz_ireturn  (Hd : Nat.beq (zfalls (.ireturn)) 2 = false → decode b off = .ok ((.ireturn), zlenf (.ireturn))) (Ho : zfalls (.ireturn) = 0 → zoff cd (j + 1) = off + zlenf (.ireturn)) {len : Nat} (hd0 : decode b off = .ok ((.ireturn), len)) (hax : zaux cd y own ret ini (off, (.ireturn), an, az) = true) (hxt : zxtra (off, (.ireturn), an, az) = true) (h : zstp zarR ph (zK w) (zR w) zrd zup zcp kn kc (fun x m => some (x, m)) none j ls st σ ((.ireturn)) an az = some r) (C : zCx p s m args c b nL own D B0) (G : zGd meth ini w D B0 v0 ph s nL n0 ad0 ad ca σ H locs lsC ls st) (K : zKt0 p l e R s m args below meth c Q w D B0 v0 ph cd nL n0 ad0 r kn) (HR : zRm R w n0 d r) (ge : ∀ j ls st σ', kn j ls st σ' = some r → σ' 0 0 ≤ r.2 0 0) (KC : ∀ y' as σ' k c2 n2 pc' ls' st', kc y' as σ' k c2 n2 pc' ls' st' = some r → ∃ d' r', d = d' + 1 ∧ zMet l w D B0 v0 ph d' y' as σ' r' ∧ (zspread as).length ≤ zml y' ∧ σ' 0 0 ≤ r'.2 0 0 ∧ kn pc' ls' (zpush k c2 n2 r'.1 st') r'.2 = some r) (RT : r.2 = σ → decode b off = .ok (zrins (zkindOf ret), 1) → zvoks w (σ 0 0) (zpush (zkindOf ret) (zrtP y).1 (zrtP y).2 r.1 []) → zrng (zkindOf ret) r.1 → W p l e R s m args below meth c H locs (σ 0 0 - n0).toNat (zsl w (σ 0 0) - zsl w n0) Q (F0 m off lsC ((zpush (zkindOf ret) (zrtP y).1 (zrtP y).2 r.1 []).map (zcv ad v0)))) : W p l e R s m args below meth c H locs (σ 0 0 - n0).toNat (zsl w (σ 0 0) - zsl w n0) Q (F0 m off lsC (st.map (zcv ad v0))) := by
  have S := zST_of C G
  have N := zNX_of K G
  have hv := G.2.1
  have hlen := G.2.2.2.2.2.2.2.2.2
  have hd := Hd
  have ho := Ho
  have hd := hd rfl
  rcases an with _ | ⟨k, _ | ⟨k2, an⟩⟩
  · cases h
  · have hax : (Nat.beq k (zkindOf ret) && decide (k = 1 ∨ k = 4 ∨ k = 5 ∨ k = 6)) = true := hax
    simp only [Bool.and_eq_true, decide_eq_true_eq] at hax
    obtain ⟨a1, a2⟩ := hax
    have a1 := Nat.eq_of_beq_eq_true a1
    obtain ⟨x, st', rfl, h2⟩ := zi1_some h
    rcases st' with _ | ⟨v, st'⟩
    · rw [← a1] at RT
      have hx := G.2.2.2.2.2.2.2.2.1
      rcases a2 with rfl | rfl | rfl | rfl
      · cases h2
        exact RT rfl hd hx trivial
      · obtain ⟨q, h3⟩ := zite_some h2
        cases h3
        exact RT rfl hd hx q
      · obtain ⟨q, h3⟩ := zite_some h2
        cases h3
        exact RT rfl hd hx q
      · obtain ⟨q, h3⟩ := zite_some h2
        cases h3
        exact RT rfl hd hx q
    · cases h2
  · cases h
set_option maxRecDepth 100000 in
theorem zz_lreturn  (Hd : Nat.beq (zfalls (.lreturn)) 2 = false → decode b off = .ok ((.lreturn), zlenf (.lreturn))) (Ho : zfalls (.lreturn) = 0 → zoff cd (j + 1) = off + zlenf (.lreturn)) {len : Nat} (hd0 : decode b off = .ok ((.lreturn), len)) (hax : zaux cd y own ret ini (off, (.lreturn), an, az) = true) (hxt : zxtra (off, (.lreturn), an, az) = true) (h : zstp zarR ph (zK w) (zR w) zrd zup zcp kn kc (fun x m => some (x, m)) none j ls st σ ((.lreturn)) an az = some r) (C : zCx p s m args c b nL own D B0) (G : zGd meth ini w D B0 v0 ph s nL n0 ad0 ad ca σ H locs lsC ls st) (K : zKt0 p l e R s m args below meth c Q w D B0 v0 ph cd nL n0 ad0 r kn) (HR : zRm R w n0 d r) (ge : ∀ j ls st σ', kn j ls st σ' = some r → σ' 0 0 ≤ r.2 0 0) (KC : ∀ y' as σ' k c2 n2 pc' ls' st', kc y' as σ' k c2 n2 pc' ls' st' = some r → ∃ d' r', d = d' + 1 ∧ zMet l w D B0 v0 ph d' y' as σ' r' ∧ (zspread as).length ≤ zml y' ∧ σ' 0 0 ≤ r'.2 0 0 ∧ kn pc' ls' (zpush k c2 n2 r'.1 st') r'.2 = some r) (RT : r.2 = σ → decode b off = .ok (zrins (zkindOf ret), 1) → zvoks w (σ 0 0) (zpush (zkindOf ret) (zrtP y).1 (zrtP y).2 r.1 []) → zrng (zkindOf ret) r.1 → W p l e R s m args below meth c H locs (σ 0 0 - n0).toNat (zsl w (σ 0 0) - zsl w n0) Q (F0 m off lsC ((zpush (zkindOf ret) (zrtP y).1 (zrtP y).2 r.1 []).map (zcv ad v0)))) : W p l e R s m args below meth c H locs (σ 0 0 - n0).toNat (zsl w (σ 0 0) - zsl w n0) Q (F0 m off lsC (st.map (zcv ad v0))) := by
  have S := zST_of C G
  have N := zNX_of K G
  have hv := G.2.1
  have hlen := G.2.2.2.2.2.2.2.2.2
  have hd := Hd
  have ho := Ho
  have hd := hd rfl
  have hax : (zkindOf ret == 2) = true := hax
  have a1 := eq_of_beq hax
  obtain ⟨x, st', rfl, h2⟩ := zj1_some h
  rcases st' with _ | ⟨v, st'⟩
  · rw [a1] at RT
    cases h2
    exact RT rfl hd G.2.2.2.2.2.2.2.2.1 trivial
  · cases h2
set_option maxRecDepth 100000 in
theorem zz_areturn  (Hd : Nat.beq (zfalls (.areturn)) 2 = false → decode b off = .ok ((.areturn), zlenf (.areturn))) (Ho : zfalls (.areturn) = 0 → zoff cd (j + 1) = off + zlenf (.areturn)) {len : Nat} (hd0 : decode b off = .ok ((.areturn), len)) (hax : zaux cd y own ret ini (off, (.areturn), an, az) = true) (hxt : zxtra (off, (.areturn), an, az) = true) (h : zstp zarR ph (zK w) (zR w) zrd zup zcp kn kc (fun x m => some (x, m)) none j ls st σ ((.areturn)) an az = some r) (C : zCx p s m args c b nL own D B0) (G : zGd meth ini w D B0 v0 ph s nL n0 ad0 ad ca σ H locs lsC ls st) (K : zKt0 p l e R s m args below meth c Q w D B0 v0 ph cd nL n0 ad0 r kn) (HR : zRm R w n0 d r) (ge : ∀ j ls st σ', kn j ls st σ' = some r → σ' 0 0 ≤ r.2 0 0) (KC : ∀ y' as σ' k c2 n2 pc' ls' st', kc y' as σ' k c2 n2 pc' ls' st' = some r → ∃ d' r', d = d' + 1 ∧ zMet l w D B0 v0 ph d' y' as σ' r' ∧ (zspread as).length ≤ zml y' ∧ σ' 0 0 ≤ r'.2 0 0 ∧ kn pc' ls' (zpush k c2 n2 r'.1 st') r'.2 = some r) (RT : r.2 = σ → decode b off = .ok (zrins (zkindOf ret), 1) → zvoks w (σ 0 0) (zpush (zkindOf ret) (zrtP y).1 (zrtP y).2 r.1 []) → zrng (zkindOf ret) r.1 → W p l e R s m args below meth c H locs (σ 0 0 - n0).toNat (zsl w (σ 0 0) - zsl w n0) Q (F0 m off lsC ((zpush (zkindOf ret) (zrtP y).1 (zrtP y).2 r.1 []).map (zcv ad v0)))) : W p l e R s m args below meth c H locs (σ 0 0 - n0).toNat (zsl w (σ 0 0) - zsl w n0) Q (F0 m off lsC (st.map (zcv ad v0))) := by
  have S := zST_of C G
  have N := zNX_of K G
  have hv := G.2.1
  have hlen := G.2.2.2.2.2.2.2.2.2
  have hd := Hd
  have ho := Ho
  have hd := hd rfl
  rcases az with _ | ⟨c2, _ | ⟨n2, _ | ⟨x2, az⟩⟩⟩
  · cases h
  · cases h
  · have hax : ((zkindOf ret == 3) && decide ([c2, n2] = zrtagOf y)) = true := hax
    simp only [Bool.and_eq_true, decide_eq_true_eq] at hax
    obtain ⟨a1, a2⟩ := hax
    have a1 := eq_of_beq a1
    have a3 := zrtP_eq (az := []) a2
    obtain ⟨c3, n3, x, st', rfl, h2⟩ := zr1_some h
    rcases st' with _ | ⟨v, st'⟩
    · obtain ⟨⟨q1, q2⟩, h3⟩ := zite_some h2
      subst q1; subst q2
      rw [a1, a3] at RT
      cases h3
      exact RT rfl hd G.2.2.2.2.2.2.2.2.1 trivial
    · cases h2
  · cases h
set_option maxRecDepth 100000 in
theorem zz_return_  (Hd : Nat.beq (zfalls (.return_)) 2 = false → decode b off = .ok ((.return_), zlenf (.return_))) (Ho : zfalls (.return_) = 0 → zoff cd (j + 1) = off + zlenf (.return_)) {len : Nat} (hd0 : decode b off = .ok ((.return_), len)) (hax : zaux cd y own ret ini (off, (.return_), an, az) = true) (hxt : zxtra (off, (.return_), an, az) = true) (h : zstp zarR ph (zK w) (zR w) zrd zup zcp kn kc (fun x m => some (x, m)) none j ls st σ ((.return_)) an az = some r) (C : zCx p s m args c b nL own D B0) (G : zGd meth ini w D B0 v0 ph s nL n0 ad0 ad ca σ H locs lsC ls st) (K : zKt0 p l e R s m args below meth c Q w D B0 v0 ph cd nL n0 ad0 r kn) (HR : zRm R w n0 d r) (ge : ∀ j ls st σ', kn j ls st σ' = some r → σ' 0 0 ≤ r.2 0 0) (KC : ∀ y' as σ' k c2 n2 pc' ls' st', kc y' as σ' k c2 n2 pc' ls' st' = some r → ∃ d' r', d = d' + 1 ∧ zMet l w D B0 v0 ph d' y' as σ' r' ∧ (zspread as).length ≤ zml y' ∧ σ' 0 0 ≤ r'.2 0 0 ∧ kn pc' ls' (zpush k c2 n2 r'.1 st') r'.2 = some r) (RT : r.2 = σ → decode b off = .ok (zrins (zkindOf ret), 1) → zvoks w (σ 0 0) (zpush (zkindOf ret) (zrtP y).1 (zrtP y).2 r.1 []) → zrng (zkindOf ret) r.1 → W p l e R s m args below meth c H locs (σ 0 0 - n0).toNat (zsl w (σ 0 0) - zsl w n0) Q (F0 m off lsC ((zpush (zkindOf ret) (zrtP y).1 (zrtP y).2 r.1 []).map (zcv ad v0)))) : W p l e R s m args below meth c H locs (σ 0 0 - n0).toNat (zsl w (σ 0 0) - zsl w n0) Q (F0 m off lsC (st.map (zcv ad v0))) := by
  have S := zST_of C G
  have N := zNX_of K G
  have hv := G.2.1
  have hlen := G.2.2.2.2.2.2.2.2.2
  have hd := Hd
  have ho := Ho
  have hd := hd rfl
  have hax : (zkindOf ret == 0) = true := hax
  have a1 := eq_of_beq hax
  rcases st with _ | ⟨v, st'⟩
  · rw [a1] at RT
    cases h
    exact RT rfl hd (fun _ q => by cases q) trivial
  · cases h
set_option maxRecDepth 100000 in
theorem zstep {i : Jvm.ClassFile.Instr} (C : zCx p s m args c b nL own D B0) (G : zGd meth ini w D B0 v0 ph s nL n0 ad0 ad ca σ H locs lsC ls st) (K : zKt0 p l e R s m args below meth c Q w D B0 v0 ph cd nL n0 ad0 r kn) (HR : zRm R w n0 d r) (ge : ∀ j ls st σ', kn j ls st σ' = some r → σ' 0 0 ≤ r.2 0 0) (KC : ∀ y' as σ' k c2 n2 pc' ls' st', kc y' as σ' k c2 n2 pc' ls' st' = some r → ∃ d' r', d = d' + 1 ∧ zMet l w D B0 v0 ph d' y' as σ' r' ∧ (zspread as).length ≤ zml y' ∧ σ' 0 0 ≤ r'.2 0 0 ∧ kn pc' ls' (zpush k c2 n2 r'.1 st') r'.2 = some r) (RT : r.2 = σ → decode b off = .ok (zrins (zkindOf ret), 1) → zvoks w (σ 0 0) (zpush (zkindOf ret) (zrtP y).1 (zrtP y).2 r.1 []) → zrng (zkindOf ret) r.1 → W p l e R s m args below meth c H locs (σ 0 0 - n0).toNat (zsl w (σ 0 0) - zsl w n0) Q (F0 m off lsC ((zpush (zkindOf ret) (zrtP y).1 (zrtP y).2 r.1 []).map (zcv ad v0)))) (hchk : zchk cd b y own ret ini j (off, i, an, az) = true) (hxt : zxtra (off, i, an, az) = true) (h : zstp zarR ph (zK w) (zR w) zrd zup zcp kn kc (fun x m => some (x, m)) none j ls st σ (i) an az = some r) : W p l e R s m args below meth c H locs (σ 0 0 - n0).toNat (zsl w (σ 0 0) - zsl w n0) Q (F0 m off lsC (st.map (zcv ad v0))) := by
  unfold zchk at hchk
  simp only [Bool.and_eq_true] at hchk
  obtain ⟨⟨hdec, hfal⟩, hax⟩ := hchk
  have hdd : ∃ n, decode b off = .ok (i, n) ∧ (zfalls i = 2 ∨ n = zlenf i) := by
    unfold zdecOK at hdec
    split at hdec
    · rename_i i' n hd
      simp only [Bool.and_eq_true, Bool.or_eq_true, decide_eq_true_eq] at hdec
      obtain ⟨e1, e2⟩ := hdec
      subst e1
      exact ⟨n, hd, e2.imp eq_of_beq eq_of_beq⟩
    · cases hdec
  obtain ⟨len, hd0, hlen0⟩ := hdd
  have hd : Nat.beq (zfalls i) 2 = false → decode b off = .ok (i, zlenf i) := fun q => by
    rcases hlen0 with z | z
    · rw [z] at q; cases q
    · rw [← z]; exact hd0
  have ho : zfalls i = 0 → zoff cd (j + 1) = off + zlenf i := fun q => by
    rw [q] at hfal
    have : decide (zoff cd (j + 1) = off + zlenf i) = true := hfal
    exact of_decide_eq_true this
  cases i
  case iadd => exact zz_iadd hd ho hd0 hax hxt h C G K HR ge KC RT
  case isub => exact zz_isub hd ho hd0 hax hxt h C G K HR ge KC RT
  case imul => exact zz_imul hd ho hd0 hax hxt h C G K HR ge KC RT
  case idiv => exact zz_idiv hd ho hd0 hax hxt h C G K HR ge KC RT
  case irem => exact zz_irem hd ho hd0 hax hxt h C G K HR ge KC RT
  case iand => exact zz_iand hd ho hd0 hax hxt h C G K HR ge KC RT
  case ior => exact zz_ior hd ho hd0 hax hxt h C G K HR ge KC RT
  case ixor => exact zz_ixor hd ho hd0 hax hxt h C G K HR ge KC RT
  case ishl => exact zz_ishl hd ho hd0 hax hxt h C G K HR ge KC RT
  case ishr => exact zz_ishr hd ho hd0 hax hxt h C G K HR ge KC RT
  case iushr => exact zz_iushr hd ho hd0 hax hxt h C G K HR ge KC RT
  case ladd => exact zz_ladd hd ho hd0 hax hxt h C G K HR ge KC RT
  case lsub => exact zz_lsub hd ho hd0 hax hxt h C G K HR ge KC RT
  case lmul => exact zz_lmul hd ho hd0 hax hxt h C G K HR ge KC RT
  case ldiv => exact zz_ldiv hd ho hd0 hax hxt h C G K HR ge KC RT
  case lrem => exact zz_lrem hd ho hd0 hax hxt h C G K HR ge KC RT
  case land => exact zz_land hd ho hd0 hax hxt h C G K HR ge KC RT
  case lor => exact zz_lor hd ho hd0 hax hxt h C G K HR ge KC RT
  case lxor => exact zz_lxor hd ho hd0 hax hxt h C G K HR ge KC RT
  case lshl => exact zz_lshl hd ho hd0 hax hxt h C G K HR ge KC RT
  case lushr => exact zz_lushr hd ho hd0 hax hxt h C G K HR ge KC RT
  case lcmp => exact zz_lcmp hd ho hd0 hax hxt h C G K HR ge KC RT
  case ineg => exact zz_ineg hd ho hd0 hax hxt h C G K HR ge KC RT
  case lneg => exact zz_lneg hd ho hd0 hax hxt h C G K HR ge KC RT
  case i2l => exact zz_i2l hd ho hd0 hax hxt h C G K HR ge KC RT
  case l2i => exact zz_l2i hd ho hd0 hax hxt h C G K HR ge KC RT
  case i2b => exact zz_i2b hd ho hd0 hax hxt h C G K HR ge KC RT
  case i2s => exact zz_i2s hd ho hd0 hax hxt h C G K HR ge KC RT
  case i2c => exact zz_i2c hd ho hd0 hax hxt h C G K HR ge KC RT
  case iconst n => exact zz_iconst hd ho hd0 hax hxt h C G K HR ge KC RT
  case bipush n => exact zz_bipush hd ho hd0 hax hxt h C G K HR ge KC RT
  case sipush n => exact zz_sipush hd ho hd0 hax hxt h C G K HR ge KC RT
  case lconst n => exact zz_lconst hd ho hd0 hax hxt h C G K HR ge KC RT
  case iload n => exact zz_iload hd ho hd0 hax hxt h C G K HR ge KC RT
  case iload_n n => exact zz_iload_n hd ho hd0 hax hxt h C G K HR ge KC RT
  case lload n => exact zz_lload hd ho hd0 hax hxt h C G K HR ge KC RT
  case lload_n n => exact zz_lload_n hd ho hd0 hax hxt h C G K HR ge KC RT
  case aload n => exact zz_aload hd ho hd0 hax hxt h C G K HR ge KC RT
  case aload_n n => exact zz_aload_n hd ho hd0 hax hxt h C G K HR ge KC RT
  case iinc n v => exact zz_iinc hd ho hd0 hax hxt h C G K HR ge KC RT
  case istore n => exact zz_istore hd ho hd0 hax hxt h C G K HR ge KC RT
  case istore_n n => exact zz_istore_n hd ho hd0 hax hxt h C G K HR ge KC RT
  case lstore n => exact zz_lstore hd ho hd0 hax hxt h C G K HR ge KC RT
  case lstore_n n => exact zz_lstore_n hd ho hd0 hax hxt h C G K HR ge KC RT
  case astore n => exact zz_astore hd ho hd0 hax hxt h C G K HR ge KC RT
  case astore_n n => exact zz_astore_n hd ho hd0 hax hxt h C G K HR ge KC RT
  case dup => exact zz_dup hd ho hd0 hax hxt h C G K HR ge KC RT
  case pop => exact zz_pop hd ho hd0 hax hxt h C G K HR ge KC RT
  case dup2 => exact zz_dup2 hd ho hd0 hax hxt h C G K HR ge KC RT
  case goto o => exact zz_goto hd ho hd0 hax hxt h C G K HR ge KC RT
  case ifCond cnd o => exact zz_ifCond hd ho hd0 hax hxt h C G K HR ge KC RT
  case if_icmp cnd o => exact zz_if_icmp hd ho hd0 hax hxt h C G K HR ge KC RT
  case tableswitch dd lo hi offs => exact zz_tableswitch hd ho hd0 hax hxt h C G K HR ge KC RT
  case lookupswitch dd ps => exact zz_lookupswitch hd ho hd0 hax hxt h C G K HR ge KC RT
  case ldc idx => exact zz_ldc hd ho hd0 hax hxt h C G K HR ge KC RT
  case ldc_w idx => exact zz_ldc_w hd ho hd0 hax hxt h C G K HR ge KC RT
  case ldc2_w idx => exact zz_ldc2_w hd ho hd0 hax hxt h C G K HR ge KC RT
  case getfield idx => exact zz_getfield hd ho hd0 hax hxt h C G K HR ge KC RT
  case putfield idx => exact zz_putfield hd ho hd0 hax hxt h C G K HR ge KC RT
  case getstatic idx => exact zz_getstatic hd ho hd0 hax hxt h C G K HR ge KC RT
  case iaload => exact zz_iaload hd ho hd0 hax hxt h C G K HR ge KC RT
  case baload => exact zz_baload hd ho hd0 hax hxt h C G K HR ge KC RT
  case laload => exact zz_laload hd ho hd0 hax hxt h C G K HR ge KC RT
  case aaload => exact zz_aaload hd ho hd0 hax hxt h C G K HR ge KC RT
  case iastore => exact zz_iastore hd ho hd0 hax hxt h C G K HR ge KC RT
  case bastore => exact zz_bastore hd ho hd0 hax hxt h C G K HR ge KC RT
  case lastore => exact zz_lastore hd ho hd0 hax hxt h C G K HR ge KC RT
  case aastore => exact zz_aastore hd ho hd0 hax hxt h C G K HR ge KC RT
  case arraylength => exact zz_arraylength hd ho hd0 hax hxt h C G K HR ge KC RT
  case new idx => exact zz_new hd ho hd0 hax hxt h C G K HR ge KC RT
  case newarray t => exact zz_newarray hd ho hd0 hax hxt h C G K HR ge KC RT
  case anewarray idx => exact zz_anewarray hd ho hd0 hax hxt h C G K HR ge KC RT
  case multianewarray idx n => exact zz_multianewarray hd ho hd0 hax hxt h C G K HR ge KC RT
  case invokevirtual idx => exact zz_invokevirtual hd ho hd0 hax hxt h C G K HR ge KC RT
  case invokespecial idx => exact zz_invokespecial hd ho hd0 hax hxt h C G K HR ge KC RT
  case invokestatic idx => exact zz_invokestatic hd ho hd0 hax hxt h C G K HR ge KC RT
  case ireturn => exact zz_ireturn hd ho hd0 hax hxt h C G K HR ge KC RT
  case lreturn => exact zz_lreturn hd ho hd0 hax hxt h C G K HR ge KC RT
  case areturn => exact zz_areturn hd ho hd0 hax hxt h C G K HR ge KC RT
  case return_ => exact zz_return_ hd ho hd0 hax hxt h C G K HR ge KC RT
  all_goals (cases h)
end
