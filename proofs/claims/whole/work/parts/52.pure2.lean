/-! Loads, stores, constants, branches, stack -/
section
variable {p : Program} {l : Launch} {e : Env} {R : Room} {s : State} {m : MethodId} {args : Array Value} {below : List Frame} {meth : Method} {c : Code} {H : Heap} {locs : List Loc} {cells slots : Nat} {Q : State → Prop}
variable {w : zW} {ad : Int → Nat} {v0 : Value} {cnt : Int} {cd : List zQ} {nL j : Nat} {b : ByteArray} {lsC : Array Slot} {ls st : List zV} {r : Int × zMem}
variable {kn : Nat → List zV → List zV → Option (Int × zMem)} {off : Nat}
theorem zp_iload {n : Nat} {x : Int} (S : zST p c b w ad v0 cnt nL lsC ls (st)) (hn : zNX p l e R s m args below meth c H locs cells slots Q w ad v0 cnt cd nL kn r) (hd : decode b off = .ok (.iload n, 2)) (ho : zoff cd (j + 1) = off + 2) (hz : znth ls n = some (zI x)) (h : kn (j + 1) ls (zI x :: st) = some r) : W p l e R s m args below meth c H locs cells slots Q (F0 m off lsC ((st).map (zcv ad v0))) := by
  obtain ⟨hx, hb, hl, hlo, hso, hlen⟩ := S
  refine lv_iload hx hb hd (zlv_at hl hz rfl) ?_
  have k := hn _ _ _ _ h hl hlo (zvoks_cons.mpr ⟨zvoks_nth hlo hz, hso⟩) hlen
  rw [ho] at k
  exact k
theorem zp_iload_n {n : Fin 4} {x : Int} (S : zST p c b w ad v0 cnt nL lsC ls (st)) (hn : zNX p l e R s m args below meth c H locs cells slots Q w ad v0 cnt cd nL kn r) (hd : decode b off = .ok (.iload_n n, 1)) (ho : zoff cd (j + 1) = off + 1) (hz : znth ls n.val = some (zI x)) (h : kn (j + 1) ls (zI x :: st) = some r) : W p l e R s m args below meth c H locs cells slots Q (F0 m off lsC ((st).map (zcv ad v0))) := by
  obtain ⟨hx, hb, hl, hlo, hso, hlen⟩ := S
  refine lv_iload_n hx hb hd rfl (zlv_at hl hz rfl) ?_
  have k := hn _ _ _ _ h hl hlo (zvoks_cons.mpr ⟨zvoks_nth hlo hz, hso⟩) hlen
  rw [ho] at k
  exact k
theorem zp_lload {n : Nat} {x : Int} (S : zST p c b w ad v0 cnt nL lsC ls (st)) (hn : zNX p l e R s m args below meth c H locs cells slots Q w ad v0 cnt cd nL kn r) (hd : decode b off = .ok (.lload n, 2)) (ho : zoff cd (j + 1) = off + 2) (hz : znth ls n = some (zJ x)) (h : kn (j + 1) ls (zJ x :: st) = some r) : W p l e R s m args below meth c H locs cells slots Q (F0 m off lsC ((st).map (zcv ad v0))) := by
  obtain ⟨hx, hb, hl, hlo, hso, hlen⟩ := S
  refine lv_lload hx hb hd (zlv_at hl hz rfl) ?_
  have k := hn _ _ _ _ h hl hlo (zvoks_cons.mpr ⟨zvoks_nth hlo hz, hso⟩) hlen
  rw [ho] at k
  exact k
theorem zp_lload_n {n : Fin 4} {x : Int} (S : zST p c b w ad v0 cnt nL lsC ls (st)) (hn : zNX p l e R s m args below meth c H locs cells slots Q w ad v0 cnt cd nL kn r) (hd : decode b off = .ok (.lload_n n, 1)) (ho : zoff cd (j + 1) = off + 1) (hz : znth ls n.val = some (zJ x)) (h : kn (j + 1) ls (zJ x :: st) = some r) : W p l e R s m args below meth c H locs cells slots Q (F0 m off lsC ((st).map (zcv ad v0))) := by
  obtain ⟨hx, hb, hl, hlo, hso, hlen⟩ := S
  refine lv_lload_n hx hb hd rfl (zlv_at hl hz rfl) ?_
  have k := hn _ _ _ _ h hl hlo (zvoks_cons.mpr ⟨zvoks_nth hlo hz, hso⟩) hlen
  rw [ho] at k
  exact k
theorem zp_aload {n : Nat} {a1 a2 x : Int} (S : zST p c b w ad v0 cnt nL lsC ls (st)) (hn : zNX p l e R s m args below meth c H locs cells slots Q w ad v0 cnt cd nL kn r) (hd : decode b off = .ok (.aload n, 2)) (ho : zoff cd (j + 1) = off + 2) (hz : znth ls n = some (zA a1 a2 x)) (h : kn (j + 1) ls (zA a1 a2 x :: st) = some r) : W p l e R s m args below meth c H locs cells slots Q (F0 m off lsC ((st).map (zcv ad v0))) := by
  obtain ⟨hx, hb, hl, hlo, hso, hlen⟩ := S
  refine lv_aload hx hb hd (zlv_at hl hz rfl) ?_
  have k := hn _ _ _ _ h hl hlo (zvoks_cons.mpr ⟨zvoks_nth hlo hz, hso⟩) hlen
  rw [ho] at k
  exact k
theorem zp_aload_n {n : Fin 4} {a1 a2 x : Int} (S : zST p c b w ad v0 cnt nL lsC ls (st)) (hn : zNX p l e R s m args below meth c H locs cells slots Q w ad v0 cnt cd nL kn r) (hd : decode b off = .ok (.aload_n n, 1)) (ho : zoff cd (j + 1) = off + 1) (hz : znth ls n.val = some (zA a1 a2 x)) (h : kn (j + 1) ls (zA a1 a2 x :: st) = some r) : W p l e R s m args below meth c H locs cells slots Q (F0 m off lsC ((st).map (zcv ad v0))) := by
  obtain ⟨hx, hb, hl, hlo, hso, hlen⟩ := S
  refine lv_aload_n hx hb hd rfl (zlv_at hl hz rfl) ?_
  have k := hn _ _ _ _ h hl hlo (zvoks_cons.mpr ⟨zvoks_nth hlo hz, hso⟩) hlen
  rw [ho] at k
  exact k
theorem zp_istore {n : Nat} {x : Int} (S : zST p c b w ad v0 cnt nL lsC ls (zI x :: st)) (hn : zNX p l e R s m args below meth c H locs cells slots Q w ad v0 cnt cd nL kn r) (hd : decode b off = .ok (.istore n, 2)) (ho : zoff cd (j + 1) = off + 2) (hlt : n < ls.length) (h : kn (j + 1) (zst1 ls n (zI x)) st = some r) : W p l e R s m args below meth c H locs cells slots Q (F0 m off lsC ((zI x :: st).map (zcv ad v0))) := by
  obtain ⟨hx, hb, hl, hlo, hso, hlen⟩ := S
  refine lv_istore hx hb hd hl (by rw [← hlen]; exact hlt) rfl (fun lsC2 hl2 => ?_)
  have hl3 := zlv_st1 (ad := ad) (v0 := v0) (v := zI x) hl2
  have k := hn _ _ _ _ h hl3 (zst1_ok (zvoks_cons.mp hso).1 hlo) (zvoks_cons.mp hso).2 (by rw [zst1_len]; exact hlen)
  rw [ho] at k
  exact k
theorem zp_istore_n {n : Fin 4} {x : Int} (S : zST p c b w ad v0 cnt nL lsC ls (zI x :: st)) (hn : zNX p l e R s m args below meth c H locs cells slots Q w ad v0 cnt cd nL kn r) (hd : decode b off = .ok (.istore_n n, 1)) (ho : zoff cd (j + 1) = off + 1) (hlt : n.val < ls.length) (h : kn (j + 1) (zst1 ls n.val (zI x)) st = some r) : W p l e R s m args below meth c H locs cells slots Q (F0 m off lsC ((zI x :: st).map (zcv ad v0))) := by
  obtain ⟨hx, hb, hl, hlo, hso, hlen⟩ := S
  refine lv_istore_n hx hb hd rfl hl (by rw [← hlen]; exact hlt) rfl (fun lsC2 hl2 => ?_)
  have hl3 := zlv_st1 (ad := ad) (v0 := v0) (v := zI x) hl2
  have k := hn _ _ _ _ h hl3 (zst1_ok (zvoks_cons.mp hso).1 hlo) (zvoks_cons.mp hso).2 (by rw [zst1_len]; exact hlen)
  rw [ho] at k
  exact k
theorem zp_lstore {n : Nat} {x : Int} (S : zST p c b w ad v0 cnt nL lsC ls (zJ x :: st)) (hn : zNX p l e R s m args below meth c H locs cells slots Q w ad v0 cnt cd nL kn r) (hd : decode b off = .ok (.lstore n, 2)) (ho : zoff cd (j + 1) = off + 2) (hlt : n + 1 < ls.length) (h : kn (j + 1) (zst2 ls n (zJ x)) st = some r) : W p l e R s m args below meth c H locs cells slots Q (F0 m off lsC ((zJ x :: st).map (zcv ad v0))) := by
  obtain ⟨hx, hb, hl, hlo, hso, hlen⟩ := S
  refine lv_lstore hx hb hd hl (by rw [← hlen]; exact hlt) rfl (fun lsC2 hl2 => ?_)
  have hl3 := zlv_st2 (ad := ad) (v0 := v0) (v := zJ x) hlt hl2
  have k := hn _ _ _ _ h hl3 (zst2_ok (zvoks_cons.mp hso).1 hlo) (zvoks_cons.mp hso).2 (by rw [zst2_len]; exact hlen)
  rw [ho] at k
  exact k
theorem zp_lstore_n {n : Fin 4} {x : Int} (S : zST p c b w ad v0 cnt nL lsC ls (zJ x :: st)) (hn : zNX p l e R s m args below meth c H locs cells slots Q w ad v0 cnt cd nL kn r) (hd : decode b off = .ok (.lstore_n n, 1)) (ho : zoff cd (j + 1) = off + 1) (hlt : n.val + 1 < ls.length) (h : kn (j + 1) (zst2 ls n.val (zJ x)) st = some r) : W p l e R s m args below meth c H locs cells slots Q (F0 m off lsC ((zJ x :: st).map (zcv ad v0))) := by
  obtain ⟨hx, hb, hl, hlo, hso, hlen⟩ := S
  refine lv_lstore_n hx hb hd rfl hl (by rw [← hlen]; exact hlt) rfl (fun lsC2 hl2 => ?_)
  have hl3 := zlv_st2 (ad := ad) (v0 := v0) (v := zJ x) hlt hl2
  have k := hn _ _ _ _ h hl3 (zst2_ok (zvoks_cons.mp hso).1 hlo) (zvoks_cons.mp hso).2 (by rw [zst2_len]; exact hlen)
  rw [ho] at k
  exact k
theorem zp_astore {n : Nat} {a1 a2 x : Int} (S : zST p c b w ad v0 cnt nL lsC ls (zA a1 a2 x :: st)) (hn : zNX p l e R s m args below meth c H locs cells slots Q w ad v0 cnt cd nL kn r) (hd : decode b off = .ok (.astore n, 2)) (ho : zoff cd (j + 1) = off + 2) (hlt : n < ls.length) (h : kn (j + 1) (zst1 ls n (zA a1 a2 x)) st = some r) : W p l e R s m args below meth c H locs cells slots Q (F0 m off lsC ((zA a1 a2 x :: st).map (zcv ad v0))) := by
  obtain ⟨hx, hb, hl, hlo, hso, hlen⟩ := S
  refine lv_astore hx hb hd hl (by rw [← hlen]; exact hlt) rfl (fun lsC2 hl2 => ?_)
  have hl3 := zlv_st1 (ad := ad) (v0 := v0) (v := zA a1 a2 x) hl2
  have k := hn _ _ _ _ h hl3 (zst1_ok (zvoks_cons.mp hso).1 hlo) (zvoks_cons.mp hso).2 (by rw [zst1_len]; exact hlen)
  rw [ho] at k
  exact k
theorem zp_astore_n {n : Fin 4} {a1 a2 x : Int} (S : zST p c b w ad v0 cnt nL lsC ls (zA a1 a2 x :: st)) (hn : zNX p l e R s m args below meth c H locs cells slots Q w ad v0 cnt cd nL kn r) (hd : decode b off = .ok (.astore_n n, 1)) (ho : zoff cd (j + 1) = off + 1) (hlt : n.val < ls.length) (h : kn (j + 1) (zst1 ls n.val (zA a1 a2 x)) st = some r) : W p l e R s m args below meth c H locs cells slots Q (F0 m off lsC ((zA a1 a2 x :: st).map (zcv ad v0))) := by
  obtain ⟨hx, hb, hl, hlo, hso, hlen⟩ := S
  refine lv_astore_n hx hb hd rfl hl (by rw [← hlen]; exact hlt) rfl (fun lsC2 hl2 => ?_)
  have hl3 := zlv_st1 (ad := ad) (v0 := v0) (v := zA a1 a2 x) hl2
  have k := hn _ _ _ _ h hl3 (zst1_ok (zvoks_cons.mp hso).1 hlo) (zvoks_cons.mp hso).2 (by rw [zst1_len]; exact hlen)
  rw [ho] at k
  exact k
theorem zp_iinc {n : Nat} {v x : Int} (S : zST p c b w ad v0 cnt nL lsC ls (st)) (hn : zNX p l e R s m args below meth c H locs cells slots Q w ad v0 cnt cd nL kn r) (hd : decode b off = .ok (.iinc n v, 3)) (ho : zoff cd (j + 1) = off + 3) (hv : zc32 v) (hz : znth ls n = some (zI x)) (h : kn (j + 1) (zst1 ls n (zI (zw32 (x + v)))) st = some r) : W p l e R s m args below meth c H locs cells slots Q (F0 m off lsC ((st).map (zcv ad v0))) := by
  obtain ⟨hx, hb, hl, hlo, hso, hlen⟩ := S
  obtain ⟨k, hk⟩ := zlv_in (ad := ad) (v0 := v0) hz rfl
  have hx' : zc32 x := zvoks_nth hlo hz
  refine lv_iinc hx hb hd hl hk (zo_add hx' hv) (by rw [← hlen]; exact znth_len hz) rfl (fun lsC2 hl2 => ?_)
  have hl3 := zlv_st1 (ad := ad) (v0 := v0) (v := zI (zw32 (x + v))) hl2
  have k := hn _ _ _ _ h hl3 (zst1_ok (v := zI (zw32 (x + v))) (zw32_c _) hlo) hso (by rw [zst1_len]; exact hlen)
  rw [ho] at k
  exact k
theorem zp_iconst {n : Int} (S : zST p c b w ad v0 cnt nL lsC ls (st)) (hn : zNX p l e R s m args below meth c H locs cells slots Q w ad v0 cnt cd nL kn r) (hd : decode b off = .ok (.iconst n, 1)) (ho : zoff cd (j + 1) = off + 1) (hv : -1 ≤ n ∧ n ≤ 5) (h : kn (j + 1) ls (zI n :: st) = some r) : W p l e R s m args below meth c H locs cells slots Q (F0 m off lsC ((st).map (zcv ad v0))) := by
  obtain ⟨hx, hb, hl, hlo, hso, hlen⟩ := S
  refine lv_iconst hx hb hd rfl ?_
  have k := hn _ _ _ _ h hl hlo (zvoks_cons.mpr ⟨(⟨by omega, by omega⟩ : zc32 n), hso⟩) hlen
  rw [ho] at k
  exact k
theorem zp_bipush {n : Int} (S : zST p c b w ad v0 cnt nL lsC ls (st)) (hn : zNX p l e R s m args below meth c H locs cells slots Q w ad v0 cnt cd nL kn r) (hd : decode b off = .ok (.bipush n, 2)) (ho : zoff cd (j + 1) = off + 2) (hv : -128 ≤ n ∧ n < 128) (h : kn (j + 1) ls (zI n :: st) = some r) : W p l e R s m args below meth c H locs cells slots Q (F0 m off lsC ((st).map (zcv ad v0))) := by
  obtain ⟨hx, hb, hl, hlo, hso, hlen⟩ := S
  have hc : zc32 n := ⟨by omega, by omega⟩
  refine lv_bipush (v := Int32.ofInt n) hx hb hd (by rw [← Int32.toInt_inj, Int8.toInt_toInt32, zt_i hc]; exact Int8.toInt_ofInt_of_le (by omega) (by omega)) ?_
  have k := hn _ _ _ _ h hl hlo (zvoks_cons.mpr ⟨hc, hso⟩) hlen
  rw [ho] at k
  exact k
theorem zp_sipush {n : Int} (S : zST p c b w ad v0 cnt nL lsC ls (st)) (hn : zNX p l e R s m args below meth c H locs cells slots Q w ad v0 cnt cd nL kn r) (hd : decode b off = .ok (.sipush n, 3)) (ho : zoff cd (j + 1) = off + 3) (hv : -32768 ≤ n ∧ n < 32768) (h : kn (j + 1) ls (zI n :: st) = some r) : W p l e R s m args below meth c H locs cells slots Q (F0 m off lsC ((st).map (zcv ad v0))) := by
  obtain ⟨hx, hb, hl, hlo, hso, hlen⟩ := S
  have hc : zc32 n := ⟨by omega, by omega⟩
  refine lv_sipush (v := Int32.ofInt n) hx hb hd (by rw [← Int32.toInt_inj, Int16.toInt_toInt32, zt_i hc]; exact Int16.toInt_ofInt_of_le (by omega) (by omega)) ?_
  have k := hn _ _ _ _ h hl hlo (zvoks_cons.mpr ⟨hc, hso⟩) hlen
  rw [ho] at k
  exact k
theorem zp_lconst0 (S : zST p c b w ad v0 cnt nL lsC ls (st)) (hn : zNX p l e R s m args below meth c H locs cells slots Q w ad v0 cnt cd nL kn r) (hd : decode b off = .ok (.lconst 0, 1)) (ho : zoff cd (j + 1) = off + 1) (h : kn (j + 1) ls (zJ 0 :: st) = some r) : W p l e R s m args below meth c H locs cells slots Q (F0 m off lsC ((st).map (zcv ad v0))) := by
  obtain ⟨hx, hb, hl, hlo, hso, hlen⟩ := S
  refine lv_lconst (v := Int64.ofInt 0) hx hb hd rfl ?_
  have k := hn _ _ _ _ h hl hlo (zvoks_cons.mpr ⟨(⟨by decide, by decide⟩ : zc64 0), hso⟩) hlen
  rw [ho] at k
  exact k
theorem zp_lconst1 (S : zST p c b w ad v0 cnt nL lsC ls (st)) (hn : zNX p l e R s m args below meth c H locs cells slots Q w ad v0 cnt cd nL kn r) (hd : decode b off = .ok (.lconst 1, 1)) (ho : zoff cd (j + 1) = off + 1) (h : kn (j + 1) ls (zJ 1 :: st) = some r) : W p l e R s m args below meth c H locs cells slots Q (F0 m off lsC ((st).map (zcv ad v0))) := by
  obtain ⟨hx, hb, hl, hlo, hso, hlen⟩ := S
  refine lv_lconst (v := Int64.ofInt 1) hx hb hd rfl ?_
  have k := hn _ _ _ _ h hl hlo (zvoks_cons.mpr ⟨(⟨by decide, by decide⟩ : zc64 1), hso⟩) hlen
  rw [ho] at k
  exact k
theorem zp_ldc {idx : Nat} {v : Int} {own : String} (S : zST p c b w ad v0 cnt nL lsC ls (st)) (hn : zNX p l e R s m args below meth c H locs cells slots Q w ad v0 cnt cd nL kn r) (hd : decode b off = .ok (.ldc idx, 2)) (ho : zoff cd (j + 1) = off + 2) (hown : s.vm.findClass own = some m.cls) (hv : zc32 v) (hc : (Jvm.Cond.constant own idx (Int32.ofInt v)).before args s = true) (h : kn (j + 1) ls (zI v :: st) = some r) : W p l e R s m args below meth c H locs cells slots Q (F0 m off lsC ((st).map (zcv ad v0))) := by
  obtain ⟨hx, hb, hl, hlo, hso, hlen⟩ := S
  refine lv_ldc hx hb hown hc hd ?_
  have k := hn _ _ _ _ h hl hlo (zvoks_cons.mpr ⟨hv, hso⟩) hlen
  rw [ho] at k
  exact k
theorem zp_ldcw {idx : Nat} {v : Int} {own : String} (S : zST p c b w ad v0 cnt nL lsC ls (st)) (hn : zNX p l e R s m args below meth c H locs cells slots Q w ad v0 cnt cd nL kn r) (hd : decode b off = .ok (.ldc_w idx, 3)) (ho : zoff cd (j + 1) = off + 3) (hown : s.vm.findClass own = some m.cls) (hv : zc32 v) (hc : (Jvm.Cond.constant own idx (Int32.ofInt v)).before args s = true) (h : kn (j + 1) ls (zI v :: st) = some r) : W p l e R s m args below meth c H locs cells slots Q (F0 m off lsC ((st).map (zcv ad v0))) := by
  obtain ⟨hx, hb, hl, hlo, hso, hlen⟩ := S
  refine lv_ldcw hx hb hown hc hd ?_
  have k := hn _ _ _ _ h hl hlo (zvoks_cons.mpr ⟨hv, hso⟩) hlen
  rw [ho] at k
  exact k
theorem zp_ldc2 {idx : Nat} {v : Int} {own : String} (S : zST p c b w ad v0 cnt nL lsC ls (st)) (hn : zNX p l e R s m args below meth c H locs cells slots Q w ad v0 cnt cd nL kn r) (hd : decode b off = .ok (.ldc2_w idx, 3)) (ho : zoff cd (j + 1) = off + 3) (hown : s.vm.findClass own = some m.cls) (hv : zc64 v) (hc : (Jvm.Cond.constantLong own idx (Int64.ofInt v)).before args s = true) (h : kn (j + 1) ls (zJ v :: st) = some r) : W p l e R s m args below meth c H locs cells slots Q (F0 m off lsC ((st).map (zcv ad v0))) := by
  obtain ⟨hx, hb, hl, hlo, hso, hlen⟩ := S
  refine lv_ldc2 hx hb hown hc hd ?_
  have k := hn _ _ _ _ h hl hlo (zvoks_cons.mpr ⟨hv, hso⟩) hlen
  rw [ho] at k
  exact k
theorem zp_dup {v : zV} (S : zST p c b w ad v0 cnt nL lsC ls (v :: st)) (hn : zNX p l e R s m args below meth c H locs cells slots Q w ad v0 cnt cd nL kn r) (hd : decode b off = .ok (.dup, 1)) (ho : zoff cd (j + 1) = off + 1) (hv0 : v0.category = 1) (hv : zcat v = 1) (h : kn (j + 1) ls (v :: v :: st) = some r) : W p l e R s m args below meth c H locs cells slots Q (F0 m off lsC ((v :: st).map (zcv ad v0))) := by
  obtain ⟨hx, hb, hl, hlo, hso, hlen⟩ := S
  have hc : (zcv ad v0 v).category = 1 := by rcases v with v | (v | (⟨a1, a2, a3⟩ | v)) <;> first | rfl | exact hv0 | (simp [zcat] at hv; done)
  refine lv_dup hx hb hd hc ?_
  have k := hn _ _ _ _ h hl hlo (zvoks_cons.mpr ⟨(zvoks_cons.mp hso).1, hso⟩) hlen
  rw [ho] at k
  exact k
theorem zp_dup2 {x c1 n1 a1 : Int} (S : zST p c b w ad v0 cnt nL lsC ls (zI x :: zA c1 n1 a1 :: st)) (hn : zNX p l e R s m args below meth c H locs cells slots Q w ad v0 cnt cd nL kn r) (hd : decode b off = .ok (.dup2, 1)) (ho : zoff cd (j + 1) = off + 1) (h : kn (j + 1) ls (zI x :: zA c1 n1 a1 :: zI x :: zA c1 n1 a1 :: st) = some r) : W p l e R s m args below meth c H locs cells slots Q (F0 m off lsC ((zI x :: zA c1 n1 a1 :: st).map (zcv ad v0))) := by
  obtain ⟨hx, hb, hl, hlo, hso, hlen⟩ := S
  refine lv_dup2_11 hx hb hd rfl rfl ?_
  have k := hn _ _ _ _ h hl hlo (zvoks_cons.mpr ⟨(zvoks_cons.mp hso).1, zvoks_cons.mpr ⟨(zvoks_cons.mp (zvoks_cons.mp hso).2).1, hso⟩⟩) hlen
  rw [ho] at k
  exact k
theorem zp_dup2J {x : Int} (S : zST p c b w ad v0 cnt nL lsC ls (zJ x :: st)) (hn : zNX p l e R s m args below meth c H locs cells slots Q w ad v0 cnt cd nL kn r) (hd : decode b off = .ok (.dup2, 1)) (ho : zoff cd (j + 1) = off + 1) (h : kn (j + 1) ls (zJ x :: zJ x :: st) = some r) : W p l e R s m args below meth c H locs cells slots Q (F0 m off lsC ((zJ x :: st).map (zcv ad v0))) := by
  obtain ⟨hx, hb, hl, hlo, hso, hlen⟩ := S
  refine lv_dup2_2 hx hb hd rfl ?_
  have k := hn _ _ _ _ h hl hlo (zvoks_cons.mpr ⟨(zvoks_cons.mp hso).1, hso⟩) hlen
  rw [ho] at k
  exact k
theorem zp_pop {v : zV} (S : zST p c b w ad v0 cnt nL lsC ls (v :: st)) (hn : zNX p l e R s m args below meth c H locs cells slots Q w ad v0 cnt cd nL kn r) (hd : decode b off = .ok (.pop, 1)) (ho : zoff cd (j + 1) = off + 1) (hv0 : v0.category = 1) (hv : zcat v = 1) (h : kn (j + 1) ls st = some r) : W p l e R s m args below meth c H locs cells slots Q (F0 m off lsC ((v :: st).map (zcv ad v0))) := by
  obtain ⟨hx, hb, hl, hlo, hso, hlen⟩ := S
  have hc : (zcv ad v0 v).category = 1 := by rcases v with v | (v | (⟨a1, a2, a3⟩ | v)) <;> first | rfl | exact hv0 | (simp [zcat] at hv; done)
  refine lv_pop hx hb hd hc ?_
  have k := hn _ _ _ _ h hl hlo (zvoks_cons.mp hso).2 hlen
  rw [ho] at k
  exact k
theorem zp_goto {o : Int} {t : Nat} (S : zST p c b w ad v0 cnt nL lsC ls (st)) (hn : zNX p l e R s m args below meth c H locs cells slots Q w ad v0 cnt cd nL kn r) (hd : decode b off = .ok (.goto o, 3)) (ht : (off : Int) + o = (zoff cd t : Int)) (h : kn t ls st = some r) : W p l e R s m args below meth c H locs cells slots Q (F0 m off lsC ((st).map (zcv ad v0))) := by
  obtain ⟨hx, hb, hl, hlo, hso, hlen⟩ := S
  exact lv_goto hx hb hd ht (hn _ _ _ _ h hl hlo hso hlen)
theorem zp_ifCond_eq {x : Int} {o : Int} {t : Nat} (S : zST p c b w ad v0 cnt nL lsC ls (zI x :: st)) (hn : zNX p l e R s m args below meth c H locs cells slots Q w ad v0 cnt cd nL kn r) (hd : decode b off = .ok (.ifCond .eq o, 3)) (ho : zoff cd (j + 1) = off + 3) (ht : (off : Int) + o = (zoff cd t : Int)) (h : zcond .eq x 0 (kn t ls st) (kn (j + 1) ls st) = some r) : W p l e R s m args below meth c H locs cells slots Q (F0 m off lsC ((zI x :: st).map (zcv ad v0))) := by
  obtain ⟨hx, hb, hl, hlo, hso, hlen⟩ := S
  have hx' : zc32 x := (zvoks_cons.mp hso).1
  have hy : zc32 0 := zc32_0
  have hs := (zvoks_cons.mp hso).2
  have hi : (Int32.ofInt x = Int32.ofInt 0) ↔ (x = 0) := zi_eq hx' hy
  unfold zcond at h
  dsimp only at h
  refine lv_if_eq hx hb hd ht (fun q => ?_) (fun q => ?_)
  · have h3 := h
    rw [if_pos (hi.mp q)] at h3
    exact hn _ _ _ _ h3 hl hlo hs hlen
  · have h3 := h
    rw [if_neg (fun z => q (hi.mpr z))] at h3
    have k := hn _ _ _ _ h3 hl hlo hs hlen
    rw [ho] at k
    exact k
theorem zp_if_icmp_eq {x y : Int} {o : Int} {t : Nat} (S : zST p c b w ad v0 cnt nL lsC ls (zI y :: zI x :: st)) (hn : zNX p l e R s m args below meth c H locs cells slots Q w ad v0 cnt cd nL kn r) (hd : decode b off = .ok (.if_icmp .eq o, 3)) (ho : zoff cd (j + 1) = off + 3) (ht : (off : Int) + o = (zoff cd t : Int)) (h : zcond .eq x y (kn t ls st) (kn (j + 1) ls st) = some r) : W p l e R s m args below meth c H locs cells slots Q (F0 m off lsC ((zI y :: zI x :: st).map (zcv ad v0))) := by
  obtain ⟨hx, hb, hl, hlo, hso, hlen⟩ := S
  have hx' : zc32 x := (zvoks_cons.mp (zvoks_cons.mp hso).2).1
  have hy : zc32 y := (zvoks_cons.mp hso).1
  have hs := (zvoks_cons.mp (zvoks_cons.mp hso).2).2
  have hi : (Int32.ofInt x = Int32.ofInt y) ↔ (x = y) := zi_eq hx' hy
  unfold zcond at h
  dsimp only at h
  refine lv_icmp_eq hx hb hd ht (fun q => ?_) (fun q => ?_)
  · have h3 := h
    rw [if_pos (hi.mp q)] at h3
    exact hn _ _ _ _ h3 hl hlo hs hlen
  · have h3 := h
    rw [if_neg (fun z => q (hi.mpr z))] at h3
    have k := hn _ _ _ _ h3 hl hlo hs hlen
    rw [ho] at k
    exact k
theorem zp_ifCond_ne {x : Int} {o : Int} {t : Nat} (S : zST p c b w ad v0 cnt nL lsC ls (zI x :: st)) (hn : zNX p l e R s m args below meth c H locs cells slots Q w ad v0 cnt cd nL kn r) (hd : decode b off = .ok (.ifCond .ne o, 3)) (ho : zoff cd (j + 1) = off + 3) (ht : (off : Int) + o = (zoff cd t : Int)) (h : zcond .ne x 0 (kn t ls st) (kn (j + 1) ls st) = some r) : W p l e R s m args below meth c H locs cells slots Q (F0 m off lsC ((zI x :: st).map (zcv ad v0))) := by
  obtain ⟨hx, hb, hl, hlo, hso, hlen⟩ := S
  have hx' : zc32 x := (zvoks_cons.mp hso).1
  have hy : zc32 0 := zc32_0
  have hs := (zvoks_cons.mp hso).2
  have hi : (Int32.ofInt x = Int32.ofInt 0) ↔ (x = 0) := zi_eq hx' hy
  unfold zcond at h
  dsimp only at h
  refine lv_if_ne hx hb hd ht (fun q => ?_) (fun q => ?_)
  · have h3 := h
    rw [if_neg (fun z => q (hi.mpr z))] at h3
    exact hn _ _ _ _ h3 hl hlo hs hlen
  · have h3 := h
    rw [if_pos (hi.mp q)] at h3
    have k := hn _ _ _ _ h3 hl hlo hs hlen
    rw [ho] at k
    exact k
theorem zp_if_icmp_ne {x y : Int} {o : Int} {t : Nat} (S : zST p c b w ad v0 cnt nL lsC ls (zI y :: zI x :: st)) (hn : zNX p l e R s m args below meth c H locs cells slots Q w ad v0 cnt cd nL kn r) (hd : decode b off = .ok (.if_icmp .ne o, 3)) (ho : zoff cd (j + 1) = off + 3) (ht : (off : Int) + o = (zoff cd t : Int)) (h : zcond .ne x y (kn t ls st) (kn (j + 1) ls st) = some r) : W p l e R s m args below meth c H locs cells slots Q (F0 m off lsC ((zI y :: zI x :: st).map (zcv ad v0))) := by
  obtain ⟨hx, hb, hl, hlo, hso, hlen⟩ := S
  have hx' : zc32 x := (zvoks_cons.mp (zvoks_cons.mp hso).2).1
  have hy : zc32 y := (zvoks_cons.mp hso).1
  have hs := (zvoks_cons.mp (zvoks_cons.mp hso).2).2
  have hi : (Int32.ofInt x = Int32.ofInt y) ↔ (x = y) := zi_eq hx' hy
  unfold zcond at h
  dsimp only at h
  refine lv_icmp_ne hx hb hd ht (fun q => ?_) (fun q => ?_)
  · have h3 := h
    rw [if_neg (fun z => q (hi.mpr z))] at h3
    exact hn _ _ _ _ h3 hl hlo hs hlen
  · have h3 := h
    rw [if_pos (hi.mp q)] at h3
    have k := hn _ _ _ _ h3 hl hlo hs hlen
    rw [ho] at k
    exact k
theorem zp_ifCond_lt {x : Int} {o : Int} {t : Nat} (S : zST p c b w ad v0 cnt nL lsC ls (zI x :: st)) (hn : zNX p l e R s m args below meth c H locs cells slots Q w ad v0 cnt cd nL kn r) (hd : decode b off = .ok (.ifCond .lt o, 3)) (ho : zoff cd (j + 1) = off + 3) (ht : (off : Int) + o = (zoff cd t : Int)) (h : zcond .lt x 0 (kn t ls st) (kn (j + 1) ls st) = some r) : W p l e R s m args below meth c H locs cells slots Q (F0 m off lsC ((zI x :: st).map (zcv ad v0))) := by
  obtain ⟨hx, hb, hl, hlo, hso, hlen⟩ := S
  have hx' : zc32 x := (zvoks_cons.mp hso).1
  have hy : zc32 0 := zc32_0
  have hs := (zvoks_cons.mp hso).2
  have hi : (Int32.ofInt x < Int32.ofInt 0) ↔ (x < 0) := zi_lt hx' hy
  unfold zcond at h
  dsimp only at h
  refine lv_if_lt hx hb hd ht (fun q => ?_) (fun q => ?_)
  · have h3 := h
    rw [if_pos (hi.mp q)] at h3
    exact hn _ _ _ _ h3 hl hlo hs hlen
  · have h3 := h
    rw [if_neg (fun z => q (hi.mpr z))] at h3
    have k := hn _ _ _ _ h3 hl hlo hs hlen
    rw [ho] at k
    exact k
theorem zp_if_icmp_lt {x y : Int} {o : Int} {t : Nat} (S : zST p c b w ad v0 cnt nL lsC ls (zI y :: zI x :: st)) (hn : zNX p l e R s m args below meth c H locs cells slots Q w ad v0 cnt cd nL kn r) (hd : decode b off = .ok (.if_icmp .lt o, 3)) (ho : zoff cd (j + 1) = off + 3) (ht : (off : Int) + o = (zoff cd t : Int)) (h : zcond .lt x y (kn t ls st) (kn (j + 1) ls st) = some r) : W p l e R s m args below meth c H locs cells slots Q (F0 m off lsC ((zI y :: zI x :: st).map (zcv ad v0))) := by
  obtain ⟨hx, hb, hl, hlo, hso, hlen⟩ := S
  have hx' : zc32 x := (zvoks_cons.mp (zvoks_cons.mp hso).2).1
  have hy : zc32 y := (zvoks_cons.mp hso).1
  have hs := (zvoks_cons.mp (zvoks_cons.mp hso).2).2
  have hi : (Int32.ofInt x < Int32.ofInt y) ↔ (x < y) := zi_lt hx' hy
  unfold zcond at h
  dsimp only at h
  refine lv_icmp_lt hx hb hd ht (fun q => ?_) (fun q => ?_)
  · have h3 := h
    rw [if_pos (hi.mp q)] at h3
    exact hn _ _ _ _ h3 hl hlo hs hlen
  · have h3 := h
    rw [if_neg (fun z => q (hi.mpr z))] at h3
    have k := hn _ _ _ _ h3 hl hlo hs hlen
    rw [ho] at k
    exact k
theorem zp_ifCond_ge {x : Int} {o : Int} {t : Nat} (S : zST p c b w ad v0 cnt nL lsC ls (zI x :: st)) (hn : zNX p l e R s m args below meth c H locs cells slots Q w ad v0 cnt cd nL kn r) (hd : decode b off = .ok (.ifCond .ge o, 3)) (ho : zoff cd (j + 1) = off + 3) (ht : (off : Int) + o = (zoff cd t : Int)) (h : zcond .ge x 0 (kn t ls st) (kn (j + 1) ls st) = some r) : W p l e R s m args below meth c H locs cells slots Q (F0 m off lsC ((zI x :: st).map (zcv ad v0))) := by
  obtain ⟨hx, hb, hl, hlo, hso, hlen⟩ := S
  have hx' : zc32 x := (zvoks_cons.mp hso).1
  have hy : zc32 0 := zc32_0
  have hs := (zvoks_cons.mp hso).2
  have hi : (Int32.ofInt x < Int32.ofInt 0) ↔ (x < 0) := zi_lt hx' hy
  unfold zcond at h
  dsimp only at h
  refine lv_if_ge hx hb hd ht (fun q => ?_) (fun q => ?_)
  · have h3 := h
    rw [if_neg (fun z => Int32.not_lt.mpr q (hi.mpr z))] at h3
    exact hn _ _ _ _ h3 hl hlo hs hlen
  · have h3 := h
    rw [if_pos (hi.mp (Int32.not_le.mp q))] at h3
    have k := hn _ _ _ _ h3 hl hlo hs hlen
    rw [ho] at k
    exact k
theorem zp_if_icmp_ge {x y : Int} {o : Int} {t : Nat} (S : zST p c b w ad v0 cnt nL lsC ls (zI y :: zI x :: st)) (hn : zNX p l e R s m args below meth c H locs cells slots Q w ad v0 cnt cd nL kn r) (hd : decode b off = .ok (.if_icmp .ge o, 3)) (ho : zoff cd (j + 1) = off + 3) (ht : (off : Int) + o = (zoff cd t : Int)) (h : zcond .ge x y (kn t ls st) (kn (j + 1) ls st) = some r) : W p l e R s m args below meth c H locs cells slots Q (F0 m off lsC ((zI y :: zI x :: st).map (zcv ad v0))) := by
  obtain ⟨hx, hb, hl, hlo, hso, hlen⟩ := S
  have hx' : zc32 x := (zvoks_cons.mp (zvoks_cons.mp hso).2).1
  have hy : zc32 y := (zvoks_cons.mp hso).1
  have hs := (zvoks_cons.mp (zvoks_cons.mp hso).2).2
  have hi : (Int32.ofInt x < Int32.ofInt y) ↔ (x < y) := zi_lt hx' hy
  unfold zcond at h
  dsimp only at h
  refine lv_icmp_ge hx hb hd ht (fun q => ?_) (fun q => ?_)
  · have h3 := h
    rw [if_neg (fun z => Int32.not_lt.mpr q (hi.mpr z))] at h3
    exact hn _ _ _ _ h3 hl hlo hs hlen
  · have h3 := h
    rw [if_pos (hi.mp (Int32.not_le.mp q))] at h3
    have k := hn _ _ _ _ h3 hl hlo hs hlen
    rw [ho] at k
    exact k
theorem zp_ifCond_gt {x : Int} {o : Int} {t : Nat} (S : zST p c b w ad v0 cnt nL lsC ls (zI x :: st)) (hn : zNX p l e R s m args below meth c H locs cells slots Q w ad v0 cnt cd nL kn r) (hd : decode b off = .ok (.ifCond .gt o, 3)) (ho : zoff cd (j + 1) = off + 3) (ht : (off : Int) + o = (zoff cd t : Int)) (h : zcond .gt x 0 (kn t ls st) (kn (j + 1) ls st) = some r) : W p l e R s m args below meth c H locs cells slots Q (F0 m off lsC ((zI x :: st).map (zcv ad v0))) := by
  obtain ⟨hx, hb, hl, hlo, hso, hlen⟩ := S
  have hx' : zc32 x := (zvoks_cons.mp hso).1
  have hy : zc32 0 := zc32_0
  have hs := (zvoks_cons.mp hso).2
  have hi : (Int32.ofInt 0 < Int32.ofInt x) ↔ (0 < x) := zi_lt hy hx'
  unfold zcond at h
  dsimp only at h
  refine lv_if_gt hx hb hd ht (fun q => ?_) (fun q => ?_)
  · have h3 := h
    rw [if_pos (hi.mp q)] at h3
    exact hn _ _ _ _ h3 hl hlo hs hlen
  · have h3 := h
    rw [if_neg (fun z => q (hi.mpr z))] at h3
    have k := hn _ _ _ _ h3 hl hlo hs hlen
    rw [ho] at k
    exact k
theorem zp_if_icmp_gt {x y : Int} {o : Int} {t : Nat} (S : zST p c b w ad v0 cnt nL lsC ls (zI y :: zI x :: st)) (hn : zNX p l e R s m args below meth c H locs cells slots Q w ad v0 cnt cd nL kn r) (hd : decode b off = .ok (.if_icmp .gt o, 3)) (ho : zoff cd (j + 1) = off + 3) (ht : (off : Int) + o = (zoff cd t : Int)) (h : zcond .gt x y (kn t ls st) (kn (j + 1) ls st) = some r) : W p l e R s m args below meth c H locs cells slots Q (F0 m off lsC ((zI y :: zI x :: st).map (zcv ad v0))) := by
  obtain ⟨hx, hb, hl, hlo, hso, hlen⟩ := S
  have hx' : zc32 x := (zvoks_cons.mp (zvoks_cons.mp hso).2).1
  have hy : zc32 y := (zvoks_cons.mp hso).1
  have hs := (zvoks_cons.mp (zvoks_cons.mp hso).2).2
  have hi : (Int32.ofInt y < Int32.ofInt x) ↔ (y < x) := zi_lt hy hx'
  unfold zcond at h
  dsimp only at h
  refine lv_icmp_gt hx hb hd ht (fun q => ?_) (fun q => ?_)
  · have h3 := h
    rw [if_pos (hi.mp q)] at h3
    exact hn _ _ _ _ h3 hl hlo hs hlen
  · have h3 := h
    rw [if_neg (fun z => q (hi.mpr z))] at h3
    have k := hn _ _ _ _ h3 hl hlo hs hlen
    rw [ho] at k
    exact k
theorem zp_ifCond_le {x : Int} {o : Int} {t : Nat} (S : zST p c b w ad v0 cnt nL lsC ls (zI x :: st)) (hn : zNX p l e R s m args below meth c H locs cells slots Q w ad v0 cnt cd nL kn r) (hd : decode b off = .ok (.ifCond .le o, 3)) (ho : zoff cd (j + 1) = off + 3) (ht : (off : Int) + o = (zoff cd t : Int)) (h : zcond .le x 0 (kn t ls st) (kn (j + 1) ls st) = some r) : W p l e R s m args below meth c H locs cells slots Q (F0 m off lsC ((zI x :: st).map (zcv ad v0))) := by
  obtain ⟨hx, hb, hl, hlo, hso, hlen⟩ := S
  have hx' : zc32 x := (zvoks_cons.mp hso).1
  have hy : zc32 0 := zc32_0
  have hs := (zvoks_cons.mp hso).2
  have hi : (Int32.ofInt 0 < Int32.ofInt x) ↔ (0 < x) := zi_lt hy hx'
  unfold zcond at h
  dsimp only at h
  refine lv_if_le hx hb hd ht (fun q => ?_) (fun q => ?_)
  · have h3 := h
    rw [if_neg (fun z => Int32.not_lt.mpr q (hi.mpr z))] at h3
    exact hn _ _ _ _ h3 hl hlo hs hlen
  · have h3 := h
    rw [if_pos (hi.mp (Int32.not_le.mp q))] at h3
    have k := hn _ _ _ _ h3 hl hlo hs hlen
    rw [ho] at k
    exact k
theorem zp_if_icmp_le {x y : Int} {o : Int} {t : Nat} (S : zST p c b w ad v0 cnt nL lsC ls (zI y :: zI x :: st)) (hn : zNX p l e R s m args below meth c H locs cells slots Q w ad v0 cnt cd nL kn r) (hd : decode b off = .ok (.if_icmp .le o, 3)) (ho : zoff cd (j + 1) = off + 3) (ht : (off : Int) + o = (zoff cd t : Int)) (h : zcond .le x y (kn t ls st) (kn (j + 1) ls st) = some r) : W p l e R s m args below meth c H locs cells slots Q (F0 m off lsC ((zI y :: zI x :: st).map (zcv ad v0))) := by
  obtain ⟨hx, hb, hl, hlo, hso, hlen⟩ := S
  have hx' : zc32 x := (zvoks_cons.mp (zvoks_cons.mp hso).2).1
  have hy : zc32 y := (zvoks_cons.mp hso).1
  have hs := (zvoks_cons.mp (zvoks_cons.mp hso).2).2
  have hi : (Int32.ofInt y < Int32.ofInt x) ↔ (y < x) := zi_lt hy hx'
  unfold zcond at h
  dsimp only at h
  refine lv_icmp_le hx hb hd ht (fun q => ?_) (fun q => ?_)
  · have h3 := h
    rw [if_neg (fun z => Int32.not_lt.mpr q (hi.mpr z))] at h3
    exact hn _ _ _ _ h3 hl hlo hs hlen
  · have h3 := h
    rw [if_pos (hi.mp (Int32.not_le.mp q))] at h3
    have k := hn _ _ _ _ h3 hl hlo hs hlen
    rw [ho] at k
    exact k
end
