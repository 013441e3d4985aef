/-! The walk of the law's entry, out of what the machine answers from its loop on -/
theorem zsl_same (w : zW) {n : Int} : zsl w n = zsl zw1 n := by
  rfl
set_option maxRecDepth 100000 in
theorem zsl_259 : zsl zw1 259 - zsl zw1 1 ≤ 7302250 ∧ zsl zw1 2 = 16 ∧ zsl zw1 1 = 0 := by
  unfold zsl
  refine ⟨?_, ?_, ?_⟩ <;> decide +kernel
/-- what is owed of the machine: from the loop's head with fresh objects the law answers 1 -/
def zLawOK : Prop := ∀ w : zW, zPu w → ∃ σ' : zMem, zden w 1000 352 10 [zA 23 w.1 (-1), zA 12 16 1, zA 13 32 209, zI 0] [] (zlf (259, zlgB)) = some (1, σ') ∧ σ' 0 0 = 259
theorem zdl {k : Nat} {q : zQ} (h : znth zc_L_law k = some q) : zdecOK code q = true ∧ zoff zc_L_law k = q.1 := by
  have h1 := zchks_at zck_352 h
  unfold zchk at h1
  simp only [Bool.and_eq_true] at h1
  exact ⟨h1.1.1, by unfold zoff; rw [h]⟩
theorem zdl2 {k off : Nat} {i : Jvm.ClassFile.Instr} {an : List Nat} {az : List Int} (h : znth zc_L_law k = some (off, i, an, az)) (hf : Nat.beq (zfalls i) 2 = false) : decode code off = .ok (i, zlenf i) := by
  have h1 := (zdl h).1
  unfold zdecOK at h1
  split at h1
  · rename_i i' n hd
    simp only [Bool.and_eq_true, Bool.or_eq_true, decide_eq_true_eq] at h1
    obtain ⟨e1, e2⟩ := h1
    subst e1
    rcases e2 with e2 | e2
    · rw [eq_of_beq e2] at hf; cases hf
    · rw [← eq_of_beq e2]; exact hd
  · cases h1
theorem zinst {C : String} {n : Nat} (h : Jvm.Cond.instantiable C n ∈ lw_tbl) : Jvm.Cond.instantiable C n ∈ lw_tk := zin h rfl
set_option maxRecDepth 100000 in
theorem zknow {args : Array Value} {s : State} (hts : ∀ w ∈ lw_tk, w.before args s = true) : ∃ D : va_G, zKno s D := by
  have h : ∀ c : Nat, ∃ q : ClassId × (Nat → Nat), ∀ r : vw_C, znth zcl c = some r → 0 < r.2.2 → u_Kn s r.1 r.2.1 r.2.2 q.1 q.2 := by
    intro c
    cases hq : znth zcl c with
    | none => exact ⟨(0, fun _ => 0), fun r h => by cases h⟩
    | some r =>
      by_cases h0 : 0 < r.2.2
      · have hin : Jvm.Cond.instantiable r.1 r.2.2 ∈ lw_tbl := by
          have hz : ((List.range 13).all fun c => c == 2 || zcns2.any (fun q => q.2.2.1 == c + 1)) = true := by decide +kernel
          have hlt : c < 13 := znth_len hq
          have h1 := List.all_eq_true.mp hz c (List.mem_range.mpr hlt)
          simp only [Bool.or_eq_true] at h1
          rcases h1 with h1 | h1
          · have := eq_of_beq h1
            subst this
            cases hq
            exact absurd h0 (by decide)
          · obtain ⟨q, hq1, hq2⟩ := List.any_eq_true.mp h1
            obtain ⟨r2, f1, f2, f3, f4, f5, f6⟩ := zcns2_ok q hq1
            rw [eq_of_beq hq2, Nat.add_sub_cancel, hq] at f1
            cases f1
            exact f5
        obtain ⟨cC, iS, hk⟩ := u_known (C := r.1) (T := r.2.1) (N := r.2.2) (n := r.2.2) hts (zclk_in c r hq) (hts _ (zin hin rfl))
        exact ⟨(cC, iS), fun r' h _ => by cases h; exact hk⟩
      · exact ⟨(0, fun _ => 0), fun r' h h1 => by cases h; exact absurd h1 h0⟩
  obtain ⟨f, hf⟩ := Classical.axiomOfChoice h
  exact ⟨(fun c => (f c).1, fun c => (f c).2), fun c r hq h0 => hf c r hq h0⟩
section
variable {p : Program} {l : Launch} {e : Env} {s : State} {m : MethodId} {below : List Frame} {meth : Method} {c : Code} {b : Nat}
theorem zlf_0 (m : zLg) : zlf m 0 0 = m.1 := zlrd_0 m
/-- from the loop's head on -/
theorem zlaw_head (hlaw : zLawOK) {w : zW} (hP : zPu w) {D : va_G} {v0 : Value} {ad : Int → Nat} {ca : Int → ClassId} {H : Heap} {locs : List Loc} {lsC : Array Slot} (hC : zCx p s m #[.ref b] c code 4 14 D s.heap.size) (hret : meth.sig.returnType = ret) (hlk : meth.locks = false) (hv : v0.category = 1)
    (hW : zWo w D s.heap.size ad ca (zlf (259, zlgB)) s H) (hO : zOld w ad v0 s.heap.size s s.heap) (hS : va_S (zA0 s.heap.size) s.heap H locs) (hl : lv_has lsC 4 (zlv ad v0 0 [zA 23 w.1 (-1), zA 12 16 1, zA 13 32 209, zI 0])) :
    W p l e room_1 s m #[.ref b] below meth c H locs 258 (zsl zw1 259 - zsl zw1 1) (lw_Z below #[.ref b] s) (F0 m 18 lsC []) := by
  obtain ⟨σ', hz, h0⟩ := hlaw w hP
  obtain ⟨n, hn⟩ := zlim_ex _ _ _ _ _ _ _ _ _ hz
  rw [zar_eq] at hn
  have hrun := zruns (l := l) (w := w) (D := D) (B0 := s.heap.size) (v0 := v0) (ph := true) hP n _ _ _ _ _ _ _ hn p e room_1 s m #[.ref b] below meth c (lw_Z below #[.ref b] s) zc_L_law code 14 4 (some .boolean) false 1 ad ad ca H locs lsC zcode_352 zck_352 hC
    ⟨hP, hv, (fun q => by cases q), ⟨hW, hO, hS, fun _ => zFl_start⟩, by decide, ⟨by decide, fun _ _ => rfl⟩, hl, ?_, (fun _ q => by cases q), rfl⟩ ⟨?_, ?_, ?_, ?_⟩ ?_
  · rw [(zdl (k := 10) (q := (18, .iload_n 3, [], [])) rfl).2, zsl_same w, zsl_same w, zlf_0] at hrun
    dsimp only at hrun
    exact W.cs (show 258 = ((259 : Int) - 1).toNat by decide) rfl hrun
  · refine zvoks_cons.mpr ⟨⟨rfl, by decide, by decide⟩, zvoks_cons.mpr ⟨⟨rfl, by decide, by decide⟩, zvoks_cons.mpr ⟨⟨rfl, by decide, by decide⟩, zvoks_cons.mpr ⟨zc32_0, fun _ q => by cases q⟩⟩⟩⟩
  · show (σ' 0 0 - 1).toNat ≤ 600000
    rw [h0]; decide
  · show zsl w (σ' 0 0) - zsl w 1 ≤ 7302250
    rw [h0, zsl_same w, zsl_same w]; exact zsl_259.1
  · show 1000 + 1 ≤ 2048
    decide
  · show 64 * (1000 + 1) ≤ 84000
    decide
  · intro ad' ca' H' locs' lsC' off hD' hag hn' hd hpv hrg
    obtain ⟨w1, o1, s1, f1⟩ := hD'
    refine va_forget (fun q hq => s1.2.2 q hq) ?_
    refine W.widen (k := 600000) (n := 7302250) ?_ ?_ ?_
    · show (σ' 0 0 - 1).toNat ≤ 600000
      rw [h0]; decide
    · show zsl w (σ' 0 0) - zsl w 1 ≤ 7302250
      rw [h0, zsl_same w, zsl_same w]; exact zsl_259.1
    · exact lw_ret hC.1 hC.2.1 hret hlk hd
/-- an object made at the law's head: new, dup, invokespecial, astore -/
theorem zmk {cc nn i1 i2 y off : Nat} {cnt cnt' : Int} {lg lg' : List (Int × Int × Int)} {k : Fin 4} {D : va_G} {v0 : Value} {ad : Int → Nat} {ca : Int → ClassId} {H : Heap} {locs : List Loc} {lsC : Array Slot} {lv : List (Nat × Value)} {Q : State → Prop} {md : zMd}
    (hC : zCx p s m #[.ref b] c code 4 14 D s.heap.size) (hin : (14, i1, cc, nn) ∈ zcns2) (hmd : znth zmd y = some md) (hyi : y ∈ zinits) (hnp : md.2.2.2.2.2.1 = 0) (hlk : Jvm.Cond.methodLink (zcnOf 14) i2 md.1 ∈ lw_tbl)
    (hd0 : decode code off = .ok (.new i1, 3)) (hd1 : decode code (off + 3) = .ok (.dup, 1)) (hd2 : decode code (off + 4) = .ok (.invokespecial i2, 3)) (hd3 : decode code (off + 7) = .ok (.astore_n k, 1))
    (hKc : zK zw1 cnt = ((cc : Int), (nn : Int))) (hrun : zex zarR false (zK zw1) (zR zw1) zP zml zlrd zlwr zlcp 3000 999 y 0 (zent (zml y) [zA cc nn cnt]) [] (cnt + 1, lg) = some (0, (cnt', lg'))) (hfit : (zspread [zA cc nn cnt]).length ≤ zml y) (hc1 : 1 ≤ cnt) (hc2 : cnt + 1 ≤ cnt') (hc3 : cnt' ≤ 259)
    (hD : zDy zw1 D s.heap.size v0 false s ad ca (zlf (cnt, lg)) H locs) (hv : v0.category = 1) (hl : lv_has lsC 4 lv)
    (kk : ∀ (ad' : Int → Nat) (ca' : Int → ClassId) (H' : Heap) (locs' : List Loc) (lsC' : Array Slot), (∀ a : Int, a < cnt → ad' a = ad a) → zDy zw1 D s.heap.size v0 false s ad' ca' (zlf (cnt', lg')) H' locs' → lv_has lsC' 4 ((k.val, Value.ref (ad' cnt)) :: lv.filter (fun q => !(q.1 == k.val) && !(q.1 + 1 == k.val && q.2.category == 2))) →
      W p l e room_1 s m #[.ref b] below meth c H' locs' (cnt' - 1).toNat (zsl zw1 cnt' - zsl zw1 1) Q (F0 m (off + 8) lsC' [])) :
    W p l e room_1 s m #[.ref b] below meth c H locs (cnt - 1).toNat (zsl zw1 cnt - zsl zw1 1) Q (F0 m off lsC []) := by
  have hC0 := hC
  obtain ⟨hx, hb, hml, hown, hts, hK, hB⟩ := hC
  obtain ⟨hW, hO, hS, hF⟩ := hD
  have e0 : zlf (cnt, lg) 0 0 = cnt := zlf_0 _
  have he : zcnOK (14, i1, cc, nn) := zcns2_ok _ hin
  have hc13 : cc ≤ 13 := by
    obtain ⟨rr, f1, f2, -⟩ := he
    have f1 : znth zcl (cc - 1) = some rr := f1
    have := znth_len f1
    have : cc - 1 < 13 := this
    omega
  have m1 := zsl_le zw1 (n := 1) (m := cnt) (by omega) hc1
  have m2 := zsl_s zw1 (n := cnt) (by omega)
  rw [hKc] at m2
  have m2 : zsl zw1 (cnt + 1) = zsl zw1 cnt + nn := m2
  have m3 := zsl_le zw1 (n := cnt + 1) (m := cnt') (by omega) hc2
  have m4 := zsl_le zw1 (n := cnt') (m := 259) (by omega) hc3
  have m5 := zsl_259.1
  have eup : zup (zlf (cnt, lg)) 0 0 (zlf (cnt, lg) 0 0 + 1) = zlf (cnt + 1, lg) := by
    rw [e0, ← zlf_wr]
    have e1 : zlwr (cnt, lg) 0 0 (cnt + 1) = (max (cnt + 1) cnt, lg) := if_pos ⟨rfl, rfl⟩
    rw [e1, show max (cnt + 1) cnt = cnt + 1 by omega]
  refine zh_new (w := zw1) (en := (14, i1, cc, nn)) he (zcns2_pos _ hin) hx hb hts hK hW hS (Nat.le_trans hB hS.1) hown (by rw [e0]; exact hKc) hc13 (by show (cnt - 1).toNat + 1 ≤ 600000; omega) (by show _ + nn ≤ 7302250; omega) hd0 fun H1 w1 s1 z1 => ?_
  rw [eup, e0] at w1
  refine lv_dup hx hb hd1 rfl ?_
  have had : ∀ a : Int, a < cnt → zad1 ad cnt H.size a = ad a := fun a q => zad1_n (by omega)
  have hD1 : zDy zw1 D s.heap.size v0 false s (zad1 ad cnt H.size) (zad1 ca cnt 0) (zlf (cnt + 1, lg)) H1 locs := ⟨w1, hO.ad (fun a q => had a (by omega)), s1, fun q => by cases q⟩
  have e2 : zlf (cnt + 1, lg) 0 0 = cnt + 1 := zlf_0 _
  have e3 : ((0, zlf (cnt', lg')) : Int × zMem).2 0 0 = cnt' := zlf_0 (cnt', lg')
  have hvo : zvoks zw1 (zlf (cnt + 1, lg) 0 0) [zA cc nn cnt] := zvoks_cons.mpr ⟨⟨hKc, by omega, by rw [e2]; omega⟩, fun _ q => by cases q⟩
  obtain ⟨hy1, hy2, hy3⟩ := zinits_ok _ hyi _ hmd
  have hr := zh_callI (p := p) (l := l) (e := e) (R := room_1) (meth := meth) (below := below) (as := []) (t2 := [zA cc nn cnt]) (host := "") (idx := i2) (off := off + 4) (lsC := lsC) (cells := (cnt - 1).toNat + 1) (slots := zsl zw1 cnt - zsl zw1 1 + nn) (r := (0, zlf (cnt', lg'))) (d := 999) hC0 hD1 hv hl.1 hmd hy3 hy1 hy2 (zMet_of (zruns zPu_1 3000) zPu_1 (zex_lg hrun)) hvo hfit hnp.symm ⟨fun _ => hlk, fun h => absurd rfl h⟩ (by show 1 + 0 ≤ 8; decide) (by show 999 + 2 ≤ 2048; decide) (by show 64 * (999 + 2) ≤ 84000; decide)
    (by rw [e2, e3]; show _ ≤ 600000; omega) (by rw [e2, e3]; show _ ≤ 7302250; omega) hd2
  rw [e2, e3] at hr
  have hr2 : va_Run p l e room_1 s m #[.ref b] below meth c H1 locs ((cnt - 1).toNat + 1) (zsl zw1 cnt - zsl zw1 1 + nn) (cnt' - (cnt + 1)).toNat (zsl zw1 cnt' - zsl zw1 (cnt + 1)) (F0 m (off + 4) lsC [.ref H.size, .ref H.size]) [.ref H.size] (zQc zw1 D s.heap.size false (zkindOf md.2.2.2.1) (zrtP y).1 (zrtP y).2 (zlf (cnt + 1, lg) 0 0) (zad1 ad cnt H.size) (0, zlf (cnt', lg')) (Value.ref (zad1 ad cnt H.size cnt) :: ([] : List zV).map (zcv (zad1 ad cnt H.size) v0)).toArray) (zA0 s.heap.size) := by
    rw [e2]
    have e4 : zcv (zad1 ad cnt H.size) v0 (zA cc nn cnt) = Value.ref H.size := by show Value.ref (zad1 ad cnt H.size cnt) = _; rw [zad1_s]
    have e5 : (([] : List zV).reverse ++ zA cc nn cnt :: [zA cc nn cnt]).map (zcv (zad1 ad cnt H.size) v0) = [Value.ref H.size, Value.ref H.size] := by
      show [zcv (zad1 ad cnt H.size) v0 (zA cc nn cnt), zcv (zad1 ad cnt H.size) v0 (zA cc nn cnt)] = _
      rw [e4]
    have e6 : [zA cc nn cnt].map (zcv (zad1 ad cnt H.size) v0) = [Value.ref H.size] := by
      show [zcv (zad1 ad cnt H.size) v0 (zA cc nn cnt)] = _
      rw [e4]
    rw [e5, e6] at hr
    exact hr
  refine zafter hr2 hD1 fun ad' ca' H' locs' had' hD' hpv => ?_
  rw [hy2]
  refine lv_astore_n hx hb (show decode code (off + 4 + 3) = _ from hd3) rfl hl k.isLt rfl fun ls' hl' => ?_
  rw [e2] at had'
  have e7 : ad' cnt = H.size := by rw [had' cnt (by omega), zad1_s]
  have k2 := kk ad' ca' H' locs' ls' (fun a q => (had' a (by omega)).trans (had a q)) hD' (by rw [e7]; exact hl')
  exact W.cs (by omega) (by show zsl zw1 cnt - zsl zw1 1 + nn + (zsl zw1 cnt' - zsl zw1 (cnt + 1)) = _; omega) k2
theorem whole_open (hlaw : zLawOK) (l : Launch) (hflags : l.flags = flags0) {L : Nat} {xs : Nat → Int32} (hL : L ≤ 3584) (C0 : lw_At p s m meth c b L xs) : W p l e room_1 s m #[Value.ref b] below meth c s.heap [] 0 0 (lw_Z below #[Value.ref b] s) (entryFrame m ([Value.ref b] : List Value).toArray 4) := by
  obtain ⟨hx, hb, hret, hml, hown, hts0, hX, hbl, hlk, hgv⟩ := C0
  have hts : ∀ w ∈ lw_tk, w.before #[Value.ref b] s = true := fun w hw => hts0 w (List.mem_filter.mp hw).1
  have hs := flat_of_before _ hgv
  let w : zW := ((L : Int), fun k => (xs k.toNat).toInt)
  have hP : zPu w := ⟨by show (0 : Int) ≤ (L : Int); omega, by show (L : Int) ≤ 3584; omega, fun k _ _ => zc_i _⟩
  obtain ⟨ad, v0, hO, hadb, hU⟩ := zold_start (w := w) (args := #[Value.ref b]) rfl (fun j _ => by show Int32.ofInt (xs ((j : Int)).toNat).toInt = xs j; rw [Int.toNat_natCast, Int32.ofInt_toInt]) hL hts0 hs hX
  obtain ⟨D, hK⟩ := zknow hts
  have hv := hO.2.2.2.2.2.2.2.1
  have hO1 := zOld_1 hO hU
  have hC : zCx p s m #[.ref b] c code 4 14 D s.heap.size := ⟨hx, hb, hml, hown, hts, hK, Nat.le_refl _⟩
  have hW0 : zWo zw1 D s.heap.size (zadm ad) (fun _ => 0) (zlf (1, [])) s s.heap := by
    have e0 : zlf (1, []) 0 0 = 1 := rfl
    refine ⟨fun a g1 g2 => ?_, fun a b g1 g2 => ?_, fun a k g1 g2 => ?_, fun a k g => ?_, by rw [e0]; decide, fun a g1 g2 => ?_⟩
    · rw [e0] at g2; omega
    · rw [e0] at g2; omega
    · rw [e0] at g2; omega
    · rw [e0] at g
      show zlrd (1, []) a k = 0
      rw [zlrd_n (by omega)]
      rfl
    · rw [e0] at g2; omega
  have hlv0 := lv_entry [Value.ref b] (n := 4) (by simp [lg_sl, Value.category])
  rw [lg_entry_eq]
  generalize ((lg_sl [Value.ref b] ++ List.replicate (4 - (lg_sl [Value.ref b]).length) Slot.unset).toArray) = lsC at hlv0 ⊢
  have hl0 : lv_has lsC 4 [(0, Value.ref b)] := hlv0
  have hD0 : zDy zw1 D s.heap.size v0 false s (zadm ad) (fun _ => 0) (zlf (1, [])) s.heap [] := ⟨hW0, hO1, va_S.rf, fun q => by cases q⟩
  have hw : W p l e room_1 s m #[.ref b] below meth c s.heap [] ((1 : Int) - 1).toNat (zsl zw1 1 - zsl zw1 1) (lw_Z below #[.ref b] s) (F0 m 0 lsC []) := by
    refine zmk (l := l) (cc := 12) (nn := 16) (i1 := 7) (i2 := 9) (y := 137) (off := 0) (k := 1) hC (by decide +kernel) (md := zmd_137) rfl (by decide) rfl (zsub_1 (List.mem_of_getElem? (i := 23) rfl)) (zdl2 (k := 0) (an := [21, 12, 16]) (az := []) rfl rfl) (zdl2 (k := 1) (an := []) (az := []) rfl rfl) (zdl2 (k := 2) (an := [335, 137, 1, 0]) (az := [0, 0, 12]) rfl rfl) (zdl2 (k := 3) (an := []) (az := []) rfl rfl)
      rfl zinA (by decide) (by decide) (by decide) (by decide) hD0 hv hl0 fun ad1 ca1 H1 locs1 ls1 had1 hD1 hl1 => ?_
    refine zmk (l := l) (cc := 13) (nn := 32) (i1 := 10) (i2 := 12) (y := 212) (off := 8) (k := 2) hC (by decide +kernel) (md := zmd_212) rfl (by decide) rfl (zsub_6 (List.mem_of_getElem? (i := 54) rfl)) (zdl2 (k := 4) (an := [1252, 13, 32]) (az := []) rfl rfl) (zdl2 (k := 5) (an := []) (az := []) rfl rfl) (zdl2 (k := 6) (an := [336, 212, 1, 0]) (az := [0, 0, 13]) rfl rfl) (zdl2 (k := 7) (an := []) (az := []) rfl rfl)
      rfl zinB (by decide) (by decide) (by decide) (by decide) hD1 hv hl1 fun ad2 ca2 H2 locs2 ls2 had2 hD2 hl2 => ?_
    refine lv_iconst (v := Int32.ofInt 0) hx hb (zdl2 (k := 8) (off := 16) (an := []) (az := []) rfl rfl) rfl ?_
    refine lv_istore_n hx hb (zdl2 (k := 9) (off := 17) (an := []) (az := []) rfl rfl) rfl hl2 (by decide) rfl fun ls3 hl3 => ?_
    obtain ⟨w2, o2, s2, f2⟩ := hD2
    let ad3 : Int → Nat := fun a => if a = -1 then b else ad2 a
    have hag : ∀ a : Int, a ≠ -1 → ad3 a = ad2 a := fun a q => if_neg q
    have hneg : ∀ a : Int, a < 0 → ad3 a = ad a := fun a q => by
      by_cases e0 : a = -1
      · subst e0; exact (if_pos rfl).trans hadb.symm
      · rw [hag a e0, had2 a (by omega), had1 a (by omega)]
        exact zadm_n e0
    refine zlaw_head hlaw (w := w) hP (ad := ad3) hC hret hlk hv (zWo_same hag w2) (hO.ad hneg) s2 ?_
    have hl4 : lv_has ls3 4 [(3, Value.int (Int32.ofInt 0)), (2, Value.ref (ad2 209)), (1, Value.ref (ad1 1)), (0, Value.ref b)] := hl3
    refine ⟨hl4.1, hl4.2.1, fun q hq => hl4.2.2 q ?_⟩
    have e1 : ad3 1 = ad1 1 := (hag 1 (by decide)).trans (had2 1 (by decide))
    have hq2 : q = (0, Value.ref (ad3 (-1))) ∨ q = (1, Value.ref (ad3 1)) ∨ q = (2, Value.ref (ad3 209)) ∨ q = (3, Value.int (Int32.ofInt 0)) := by
      simpa [zlv, zisU, zcv] using hq
    rcases hq2 with rfl | rfl | rfl | rfl
    · rw [show ad3 (-1) = b from if_pos rfl]; simp
    · rw [e1]; simp
    · rw [hag 209 (by decide)]; simp
    · simp
  exact hw
end
