/-! Arrays that were made: reads and writes -/
theorem zarr {w : zW} {D : va_G} {B0 : Nat} {ad : Int → Nat} {ca : Int → ClassId} {σ : zMem} {s : State} {H : Heap} {a cc n : Int} (hW : zWo w D B0 ad ca σ s H) (ha : 0 < a) (hac : a < σ 0 0) (hk : zK w a = (cc, n)) (hc : 13 < cc) :
    H[ad a]? = some (arrV (ca a) n.toNat (fun j => zsv w ad σ a j)) ∧ zaK s (ca a) cc := by
  obtain ⟨h1, -, h3⟩ := hW.1 a ha hac
  unfold zce at h1
  rw [hk] at h1 h3
  rw [if_neg (by show ¬ cc ≤ 13; omega)] at h1
  exact ⟨h1, h3 hc⟩
theorem zty20 {w : zW} {a k n : Int} (h : zK w a = (20, n)) : zty w a k = 1 := by unfold zty; rw [h]; rfl
theorem zty21 {w : zW} {a k n : Int} (h : zK w a = (21, n)) : zty w a k = 2 := by unfold zty; rw [h]; rfl
theorem zty22 {w : zW} {a k n : Int} (h : zK w a = (22, n)) : zty w a k = 6 := by unfold zty; rw [h]; rfl
theorem zty33 {w : zW} {a k n : Int} (h : zK w a = (33, n)) : zty w a k = 7 := by unfold zty; rw [h]; rfl
theorem zty3 {w : zW} {a k n cc : Int} (h : zK w a = (cc, n)) (h1 : 30 ≤ cc) (h2 : cc ≠ 33) : zty w a k = 3 := by
  unfold zty
  rw [h]
  show (if cc ≤ 13 then _ else if cc = 20 then 1 else if cc = 21 then 2 else if cc = 22 then 6 else if cc = 33 then 7 else 3) = 3
  rw [if_neg (by omega), if_neg (by omega), if_neg (by omega), if_neg (by omega), if_neg h2]
theorem zin_lt {i n : Int} (hi : zc32 i) (h0 : 0 ≤ i) (h1 : i < n) : ¬ (Int32.ofInt i < 0 ∨ n.toNat ≤ (Int32.ofInt i).toNatClampNeg) := by
  have := zi_in (n := n.toNat) hi h0 (by omega)
  exact this
/-- a slot of an array is written -/
theorem zce_arr {w : zW} {D : va_G} {ad : Int → Nat} {ca : Int → ClassId} {σ : zMem} {H' : Heap} {a cc n i x : Int} {v : Value} (hk : zK w a = (cc, n)) (hc : 13 < cc) (hi : zc32 i) (h0 : 0 ≤ i) (he : H'[ad a]? = some ((arrV (ca a) n.toNat (fun j => zsv w ad σ a j)).setSlot (Int32.ofInt i).toNatClampNeg v)) (hv : zsv w ad (zup σ a i x) a i = v) : zce w D ad ca (zup σ a i x) a H' := by
  unfold zce
  rw [hk]
  rw [if_neg (by show ¬ cc ≤ 13; omega), he, arrV_store]
  congr 2
  funext j
  rw [zi_nat hi h0]
  unfold updV
  split
  · rename_i e
    subst e
    rw [← hv]
    congr 1
    omega
  · rename_i e
    exact (zsv_congr (zup_n (fun q => e (by omega)))).symm
theorem znar {x : Int} (hx : zc32 x) : narrow .boolean (.int (Int32.ofInt x)) = .int (Int32.ofInt (x % 2)) := by
  show Value.int (Int32.ofInt x &&& 1) = _
  congr 1
  have e : (1 : Int32) = Int32.ofInt 1 := rfl
  rw [e, zo_and, zand, zo_w]
  congr 1
  have h1 : zu32 1 = 1 := rfl
  rw [h1, Nat.and_one_is_mod]
  unfold zu32
  omega
section
variable {p : Program} {l : Launch} {e : Env} {R : Room} {s : State} {m : MethodId} {args : Array Value} {below : List Frame} {meth : Method} {c : Code} {H : Heap} {locs : List Loc} {cells slots : Nat} {Q : State → Prop}
variable {w : zW} {D : va_G} {B0 : Nat} {ad : Int → Nat} {ca : Int → ClassId} {σ : zMem} {b : ByteArray} {pc : Nat} {lsC : Array Slot} {rest : List Value} {a n i : Int} {A : Nat → Prop} {H0 : Heap}
theorem zh_iald (hx : p.tables.exec = Jvm.exec) (hb : c.code = b) (hW : zWo w D B0 ad ca σ s H) (ha : 0 < a) (hac : a < σ 0 0) (hk : zK w a = (20, n)) (hi : zc32 i) (h0 : 0 ≤ i) (h1 : i < n) (hd : decode b pc = .ok (.iaload, 1))
    (kk : W p l e R s m args below meth c H locs cells slots Q (F0 m (pc + 1) lsC (zsv w ad σ a i :: rest))) : W p l e R s m args below meth c H locs cells slots Q (F0 m pc lsC (.int (Int32.ofInt i) :: .ref (ad a) :: rest)) := by
  obtain ⟨hc, hK⟩ := zarr hW ha hac hk (by decide)
  refine W.iald (v := zsv w ad σ a i) hx hb hc (hK.1 _ _) (fun q => by cases q) (by rw [arrV_size]; exact zin_lt hi h0 h1) ?_ rfl rfl hd kk
  rw [zi_nat hi h0]
  refine (arrV_read _ _ (show i.toNat < n.toNat by omega)).trans ?_
  rw [show ((i.toNat : Nat) : Int) = i by omega]
theorem zh_lald (hx : p.tables.exec = Jvm.exec) (hb : c.code = b) (hW : zWo w D B0 ad ca σ s H) (ha : 0 < a) (hac : a < σ 0 0) (hk : zK w a = (21, n)) (hi : zc32 i) (h0 : 0 ≤ i) (h1 : i < n) (hd : decode b pc = .ok (.laload, 1))
    (kk : W p l e R s m args below meth c H locs cells slots Q (F0 m (pc + 1) lsC (zsv w ad σ a i :: rest))) : W p l e R s m args below meth c H locs cells slots Q (F0 m pc lsC (.int (Int32.ofInt i) :: .ref (ad a) :: rest)) := by
  obtain ⟨hc, hK⟩ := zarr hW ha hac hk (by decide)
  refine W.lald (v := zsv w ad σ a i) hx hb hc (hK.1 _ _) (fun q => by cases q) (by rw [arrV_size]; exact zin_lt hi h0 h1) ?_ rfl rfl hd kk
  rw [zi_nat hi h0]
  refine (arrV_read _ _ (show i.toNat < n.toNat by omega)).trans ?_
  rw [show ((i.toNat : Nat) : Int) = i by omega]
theorem zh_zald (hx : p.tables.exec = Jvm.exec) (hb : c.code = b) (hW : zWo w D B0 ad ca σ s H) (ha : 0 < a) (hac : a < σ 0 0) (hk : zK w a = (22, n)) (hi : zc32 i) (h0 : 0 ≤ i) (h1 : i < n) (hd : decode b pc = .ok (.baload, 1))
    (kk : W p l e R s m args below meth c H locs cells slots Q (F0 m (pc + 1) lsC (zsv w ad σ a i :: rest))) : W p l e R s m args below meth c H locs cells slots Q (F0 m pc lsC (.int (Int32.ofInt i) :: .ref (ad a) :: rest)) := by
  obtain ⟨hc, hK⟩ := zarr hW ha hac hk (by decide)
  refine W.zald (v := zsv w ad σ a i) hx hb hc (hK.1 _ _) (fun q => by cases q) (by rw [arrV_size]; exact zin_lt hi h0 h1) ?_ rfl rfl hd kk
  rw [zi_nat hi h0]
  refine (arrV_read _ _ (show i.toNat < n.toNat by omega)).trans ?_
  rw [show ((i.toNat : Nat) : Int) = i by omega]
theorem zh_aald {cc : Int} (hx : p.tables.exec = Jvm.exec) (hb : c.code = b) (hW : zWo w D B0 ad ca σ s H) (ha : 0 < a) (hac : a < σ 0 0) (hk : zK w a = (cc, n)) (hcc : 30 ≤ cc) (hi : zc32 i) (h0 : 0 ≤ i) (h1 : i < n) (hd : decode b pc = .ok (.aaload, 1))
    (kk : W p l e R s m args below meth c H locs cells slots Q (F0 m (pc + 1) lsC (zsv w ad σ a i :: rest))) : W p l e R s m args below meth c H locs cells slots Q (F0 m pc lsC (.int (Int32.ofInt i) :: .ref (ad a) :: rest)) := by
  obtain ⟨hc, hK⟩ := zarr hW ha hac hk (by omega)
  have hty : (zaty cc).isReference = true := by
    unfold zaty
    rw [if_neg (by omega), if_neg (by omega), if_neg (by omega)]
    split <;> (try split) <;> (try split) <;> rfl
  refine W.aald (v := zsv w ad σ a i) hx hb hc (hK.1 _ _) hty (fun q => by cases q) (by rw [arrV_size]; exact zin_lt hi h0 h1) ?_ rfl rfl hd kk
  rw [zi_nat hi h0]
  refine (arrV_read _ _ (show i.toNat < n.toNat by omega)).trans ?_
  rw [show ((i.toNat : Nat) : Int) = i by omega]
theorem zh_iast {x : Int} (hx : p.tables.exec = Jvm.exec) (hb : c.code = b) (hW : zWo w D B0 ad ca σ s H) (ha : 0 < a) (hac : a < σ 0 0) (hS : va_S A H0 H locs) (hA : A (ad a)) (hk : zK w a = (20, n)) (hi : zc32 i) (h0 : 0 ≤ i) (h1 : i < n) (hx2 : zc32 x) (hd : decode b pc = .ok (.iastore, 1))
    (kk : ∀ (H1 : Heap) (locs1 : List Loc), zWo w D B0 ad ca (zup σ a i x) s H1 → va_S A H0 H1 locs1 → W p l e R s m args below meth c H1 locs1 cells slots Q (F0 m (pc + 1) lsC (rest))) : W p l e R s m args below meth c H locs cells slots Q (F0 m pc lsC (.int (Int32.ofInt x) :: .int (Int32.ofInt i) :: .ref (ad a) :: rest)) := by
  obtain ⟨hc, hK⟩ := zarr hW ha hac hk (by decide)
  have hsv : zsv w ad (zup σ a i x) a i = .int (Int32.ofInt x) := by unfold zsv; rw [zty20 hk]; rw [zup_s (by omega)]; rfl
  refine W.iast hx hb hc (hK.1 _ _) (fun q => by cases q) (by rw [arrV_size]; exact zin_lt hi h0 h1) rfl rfl hd fun H1 e1 e2 e3 => ?_
  exact kk H1 _ (zWo_set hW ha hac e3 (zce_arr hk (by decide) hi h0 e1 hsv) (fun _ _ => by unfold zsk; rw [zty20 hk]; rw [zup_s (by omega)]; exact hx2)) (hS.put e2 e3 hA)
theorem zh_last {x : Int} (hx : p.tables.exec = Jvm.exec) (hb : c.code = b) (hW : zWo w D B0 ad ca σ s H) (ha : 0 < a) (hac : a < σ 0 0) (hS : va_S A H0 H locs) (hA : A (ad a)) (hk : zK w a = (21, n)) (hi : zc32 i) (h0 : 0 ≤ i) (h1 : i < n) (hx2 : zc64 x) (hd : decode b pc = .ok (.lastore, 1))
    (kk : ∀ (H1 : Heap) (locs1 : List Loc), zWo w D B0 ad ca (zup σ a i x) s H1 → va_S A H0 H1 locs1 → W p l e R s m args below meth c H1 locs1 cells slots Q (F0 m (pc + 1) lsC (rest))) : W p l e R s m args below meth c H locs cells slots Q (F0 m pc lsC (.long (Int64.ofInt x) :: .int (Int32.ofInt i) :: .ref (ad a) :: rest)) := by
  obtain ⟨hc, hK⟩ := zarr hW ha hac hk (by decide)
  have hsv : zsv w ad (zup σ a i x) a i = .long (Int64.ofInt x) := by unfold zsv; rw [zty21 hk]; rw [zup_s (by omega)]; rfl
  refine W.last hx hb hc (hK.1 _ _) (fun q => by cases q) (by rw [arrV_size]; exact zin_lt hi h0 h1) rfl rfl hd fun H1 e1 e2 e3 => ?_
  exact kk H1 _ (zWo_set hW ha hac e3 (zce_arr hk (by decide) hi h0 e1 hsv) (fun _ _ => by unfold zsk; rw [zty21 hk]; rw [zup_s (by omega)]; exact hx2)) (hS.put e2 e3 hA)
theorem zh_zast {x : Int} (hx : p.tables.exec = Jvm.exec) (hb : c.code = b) (hW : zWo w D B0 ad ca σ s H) (ha : 0 < a) (hac : a < σ 0 0) (hS : va_S A H0 H locs) (hA : A (ad a)) (hk : zK w a = (22, n)) (hi : zc32 i) (h0 : 0 ≤ i) (h1 : i < n) (hx2 : zc32 x) (hd : decode b pc = .ok (.bastore, 1))
    (kk : ∀ (H1 : Heap) (locs1 : List Loc), zWo w D B0 ad ca (zup σ a i (x % 2)) s H1 → va_S A H0 H1 locs1 → W p l e R s m args below meth c H1 locs1 cells slots Q (F0 m (pc + 1) lsC (rest))) : W p l e R s m args below meth c H locs cells slots Q (F0 m pc lsC (.int (Int32.ofInt x) :: .int (Int32.ofInt i) :: .ref (ad a) :: rest)) := by
  obtain ⟨hc, hK⟩ := zarr hW ha hac hk (by decide)
  have hsv : zsv w ad (zup σ a i (x % 2)) a i = .int (Int32.ofInt (x % 2)) := by unfold zsv; rw [zty22 hk]; rw [zup_s (by omega)]; rfl
  refine W.zast hx hb hc (hK.1 _ _) (fun q => by cases q) (by rw [arrV_size]; exact zin_lt hi h0 h1) rfl rfl hd fun H1 e1 e2 e3 => ?_
  have e4 : H1[ad a]? = some ((arrV (ca a) n.toNat (fun j => zsv w ad σ a j)).setSlot (Int32.ofInt i).toNatClampNeg (.int (Int32.ofInt (x % 2)))) := by
    rw [e1]
    congr 2
    exact znar hx2
  exact kk H1 _ (zWo_set hW ha hac e3 (zce_arr hk (by decide) hi h0 e4 hsv) (fun _ _ => by unfold zsk; rw [zty22 hk]; rw [zup_s (by omega)]; show 0 ≤ x % 2 ∧ x % 2 ≤ 1; omega)) (hS.put e2 e3 hA)
theorem zh_alen {cc : Int} (hx : p.tables.exec = Jvm.exec) (hb : c.code = b) (hW : zWo w D B0 ad ca σ s H) (ha : 0 < a) (hac : a < σ 0 0) (hk : zK w a = (cc, n)) (hcc : 13 < cc) (hn : 0 ≤ n) (hn2 : n < 2147483648) (hd : decode b pc = .ok (.arraylength, 1))
    (kk : W p l e R s m args below meth c H locs cells slots Q (F0 m (pc + 1) lsC (.int (Int32.ofInt n) :: rest))) : W p l e R s m args below meth c H locs cells slots Q (F0 m pc lsC (.ref (ad a) :: rest)) := by
  obtain ⟨hc, hK⟩ := zarr hW ha hac hk hcc
  refine W.alen (n := Int32.ofInt n) hx hb hc (hK.1 _ _) ?_ rfl rfl hd kk
  rw [arrV_size, ← Int32.toInt_inj, zt_i ⟨by omega, by omega⟩]
  show (Int32.ofNat n.toNat).toInt = n
  rw [Int32.toInt_ofNat_of_lt (by omega)]
  omega
end
