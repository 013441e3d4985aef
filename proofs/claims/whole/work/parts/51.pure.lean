/-! One instruction that touches locals and stack alone: the JVM does what the machine does -/
def zvoks (w : zW) (n : Int) (l : List zV) : Prop := ∀ v ∈ l, zvok w n v
theorem zvoks_cons {w : zW} {n : Int} {v : zV} {l : List zV} : zvoks w n (v :: l) ↔ zvok w n v ∧ zvoks w n l := by
  unfold zvoks
  rw [List.forall_mem_cons]
theorem zvoks_nth {w : zW} {n : Int} {l : List zV} {k : Nat} {v : zV} (h : zvoks w n l) (hk : znth l k = some v) : zvok w n v := by
  induction l generalizing k with
  | nil => cases hk
  | cons a l ih =>
    cases k with
    | zero => cases hk; exact h _ List.mem_cons_self
    | succ k => exact ih (fun u hu => h u (List.mem_cons_of_mem _ hu)) hk
theorem znth_mem {l : List zV} {v : zV} (h : v ∈ l) : ∃ k, znth l k = some v := by
  induction l with
  | nil => cases h
  | cons a l ih =>
    rcases List.mem_cons.mp h with h | h
    · exact ⟨0, by rw [h]; rfl⟩
    · obtain ⟨k, hk⟩ := ih h; exact ⟨k + 1, hk⟩
theorem zlng_ok {w : zW} {n : Int} {v : zV} (k : Nat) (hv : zvok w n v) : zvok w n (zlng k v) := by
  rcases v with v | (v | v) <;> rcases k with _ | k <;> first | exact hv | trivial
theorem zst1_ok {w : zW} {n : Int} {v : zV} (hv : zvok w n v) : ∀ {l : List zV} {k : Nat}, zvoks w n l → zvoks w n (zst1 l k v)
  | [], _, _ => fun _ h => by cases h
  | a :: l, 0, h => zvoks_cons.mpr ⟨hv, (zvoks_cons.mp h).2⟩
  | a :: l, k + 1, h => zvoks_cons.mpr ⟨zlng_ok k (zvoks_cons.mp h).1, zst1_ok hv (zvoks_cons.mp h).2⟩
theorem zst2_ok {w : zW} {n : Int} {v : zV} (hv : zvok w n v) : ∀ {l : List zV} {k : Nat}, zvoks w n l → zvoks w n (zst2 l k v)
  | [], _, _ => fun _ h => by cases h
  | [a], 0, _ => zvoks_cons.mpr ⟨hv, fun _ h => by cases h⟩
  | a :: b :: l, 0, h => zvoks_cons.mpr ⟨hv, zvoks_cons.mpr ⟨trivial, (zvoks_cons.mp (zvoks_cons.mp h).2).2⟩⟩
  | a :: l, k + 1, h => by rw [zst2_s]; exact zvoks_cons.mpr ⟨zlng_ok k (zvoks_cons.mp h).1, zst2_ok hv (zvoks_cons.mp h).2⟩
theorem zcmp_c (x y : Int) : zc32 (zcmp x y) := by unfold zcmp zc32; split <;> (try split) <;> decide
theorem zo_cmp {x y : Int} (hx : zc64 x) (hy : zc64 y) : lg_cmp (Int64.ofInt x) (Int64.ofInt y) = Int32.ofInt (zcmp x y) := by
  unfold lg_cmp zcmp
  by_cases h1 : x < y
  · rw [if_pos h1, if_neg (fun q => by have := (zl_lt hy hx).mp q; omega), if_neg (fun q => by have := (zl_eq hx hy).mp q; omega)]; rfl
  · rw [if_neg h1]
    by_cases h2 : x = y
    · rw [if_pos h2, if_neg (fun q => by have := (zl_lt hy hx).mp q; omega), if_pos (by rw [h2])]; rfl
    · rw [if_neg h2, if_pos ((zl_lt hy hx).mpr (by omega))]; rfl
theorem zshr_c {x : Int} (hx : zc32 x) (y : Int) : zc32 (zshr x y) := by
  unfold zshr
  have hp : (0 : Int) < 2 ^ (zu32 y % 32) := Int.pow_pos (by decide)
  generalize (2 : Int) ^ (zu32 y % 32) = k at hp
  obtain ⟨a, b⟩ := hx
  constructor
  · exact (Int.le_ediv_iff_mul_le hp).mpr (by omega)
  · by_cases h0 : 0 ≤ x
    · exact Int.lt_of_le_of_lt (Int.ediv_le_self _ h0) b
    · have := Int.ediv_neg_of_neg_of_pos (a := x) (by omega) hp
      omega
section
variable {p : Program} {l : Launch} {e : Env} {R : Room} {s : State} {m : MethodId} {args : Array Value} {below : List Frame} {meth : Method} {c : Code} {H : Heap} {locs : List Loc} {cells slots : Nat} {Q : State → Prop}
variable {w : zW} {ad : Int → Nat} {v0 : Value} {cnt : Int} {cd : List zQ} {nL j : Nat} {b : ByteArray} {lsC : Array Slot} {ls st : List zV} {σ : zMem} {q : zQ} {r : Int × zMem}
/-- what is behind: W at the machine's next places, the memory being the same -/
def zNX (p : Program) (l : Launch) (e : Env) (R : Room) (s : State) (m : MethodId) (args : Array Value) (below : List Frame) (meth : Method) (c : Code) (H : Heap) (locs : List Loc) (cells slots : Nat) (Q : State → Prop)
    (w : zW) (ad : Int → Nat) (v0 : Value) (cnt : Int) (cd : List zQ) (nL : Nat) (kn : Nat → List zV → List zV → Option (Int × zMem)) (r : Int × zMem) : Prop :=
  ∀ (j' : Nat) (ls' st' : List zV) (lsC : Array Slot), kn j' ls' st' = some r → lv_has lsC nL (zlv ad v0 0 ls') → zvoks w cnt ls' → zvoks w cnt st' → ls'.length = nL →
    W p l e R s m args below meth c H locs cells slots Q (F0 m (zoff cd j') lsC (st'.map (zcv ad v0)))
theorem zand_c (x y : Int) : zc32 (zand x y) := zw32_c _
theorem zor_c (x y : Int) : zc32 (zor x y) := zw32_c _
theorem zxor_c (x y : Int) : zc32 (zxor x y) := zw32_c _
theorem zshl_c (x y : Int) : zc32 (zshl x y) := zw32_c _
theorem zushr_c (x y : Int) : zc32 (zushr x y) := zw32_c _
theorem zandL_c (x y : Int) : zc64 (zandL x y) := zw64_c _
theorem zorL_c (x y : Int) : zc64 (zorL x y) := zw64_c _
theorem zxorL_c (x y : Int) : zc64 (zxorL x y) := zw64_c _
theorem zshlL_c (x y : Int) : zc64 (zshlL x y) := zw64_c _
theorem zushrL_c (x y : Int) : zc64 (zushrL x y) := zw64_c _
theorem zc32_0 : zc32 0 := ⟨by decide, by decide⟩
theorem zc64_0 : zc64 0 := ⟨by decide, by decide⟩
/-- the machine stands as the JVM does: code, locals, stack -/
def zST (p : Program) (c : Code) (b : ByteArray) (w : zW) (ad : Int → Nat) (v0 : Value) (cnt : Int) (nL : Nat) (lsC : Array Slot) (ls st : List zV) : Prop :=
  p.tables.exec = Jvm.exec ∧ c.code = b ∧ lv_has lsC nL (zlv ad v0 0 ls) ∧ zvoks w cnt ls ∧ zvoks w cnt st ∧ ls.length = nL
theorem zi1_some {st : List zV} {f : Int → List zV → Option (Int × zMem)} (h : zi1 none st f = some r) : ∃ x st', st = zI x :: st' ∧ f x st' = some r := by
  rcases st with _ | ⟨(x | x), st⟩ <;> first | exact ⟨_, _, rfl, h⟩ | cases h
theorem zj1_some {st : List zV} {f : Int → List zV → Option (Int × zMem)} (h : zj1 none st f = some r) : ∃ x st', st = zJ x :: st' ∧ f x st' = some r := by
  rcases st with _ | ⟨(x | (x | x)), st⟩ <;> first | exact ⟨_, _, rfl, h⟩ | cases h
theorem zi2_some {st : List zV} {f : Int → Int → List zV → Option (Int × zMem)} (h : zi2 none st f = some r) : ∃ x y st', st = zI y :: zI x :: st' ∧ f x y st' = some r := by
  rcases st with _ | ⟨(x | x), _ | ⟨(y | y), st⟩⟩ <;> first | exact ⟨_, _, _, rfl, h⟩ | cases h
theorem zj2_some {st : List zV} {f : Int → Int → List zV → Option (Int × zMem)} (h : zj2 none st f = some r) : ∃ x y st', st = zJ y :: zJ x :: st' ∧ f x y st' = some r := by
  rcases st with _ | ⟨(x | (x | x)), _ | ⟨(y | (y | y)), st⟩⟩ <;> first | exact ⟨_, _, _, rfl, h⟩ | cases h
theorem zji_some {st : List zV} {f : Int → Int → List zV → Option (Int × zMem)} (h : zji none st f = some r) : ∃ x y st', st = zI y :: zJ x :: st' ∧ f x y st' = some r := by
  rcases st with _ | ⟨(x | (x | x)), _ | ⟨(y | (y | y)), st⟩⟩ <;> first | exact ⟨_, _, _, rfl, h⟩ | cases h
theorem zr1_some {st : List zV} {f : Int → Int → Int → List zV → Option (Int × zMem)} (h : zr1 none st f = some r) : ∃ c n a st', st = zA c n a :: st' ∧ f c n a st' = some r := by
  rcases st with _ | ⟨(x | (x | (⟨c, n, a⟩ | x))), st⟩ <;> first | exact ⟨_, _, _, _, rfl, h⟩ | cases h
variable {kn : Nat → List zV → List zV → Option (Int × zMem)} {off : Nat}
theorem zp_iadd (S : zST p c b w ad v0 cnt nL lsC ls st) (hn : zNX p l e R s m args below meth c H locs cells slots Q w ad v0 cnt cd nL kn r) (hd : decode b off = .ok (.iadd, 1)) (ho : zoff cd (j + 1) = off + 1)
    (h : zi2 none st (fun x y st => kn (j + 1) ls (zI (zw32 (x + y)) :: st)) = some r) : W p l e R s m args below meth c H locs cells slots Q (F0 m off lsC (st.map (zcv ad v0))) := by
  obtain ⟨hx, hb, hl, hlo, hso, hlen⟩ := S
  obtain ⟨x, y, st', rfl, h2⟩ := zi2_some h
  have hy := (zvoks_cons.mp hso).1
  have hx' := (zvoks_cons.mp (zvoks_cons.mp hso).2).1
  have hs := (zvoks_cons.mp (zvoks_cons.mp hso).2).2
  refine lv_iadd hx hb hd ?_
  rw [zo_add hx' hy]
  have k := hn _ _ _ _ h2 hl hlo (zvoks_cons.mpr ⟨zw32_c _, hs⟩) hlen
  rw [ho] at k
  exact k
theorem zp_isub (S : zST p c b w ad v0 cnt nL lsC ls st) (hn : zNX p l e R s m args below meth c H locs cells slots Q w ad v0 cnt cd nL kn r) (hd : decode b off = .ok (.isub, 1)) (ho : zoff cd (j + 1) = off + 1)
    (h : zi2 none st (fun x y st => kn (j + 1) ls (zI (zw32 (x - y)) :: st)) = some r) : W p l e R s m args below meth c H locs cells slots Q (F0 m off lsC (st.map (zcv ad v0))) := by
  obtain ⟨hx, hb, hl, hlo, hso, hlen⟩ := S
  obtain ⟨x, y, st', rfl, h2⟩ := zi2_some h
  have hy := (zvoks_cons.mp hso).1
  have hx' := (zvoks_cons.mp (zvoks_cons.mp hso).2).1
  have hs := (zvoks_cons.mp (zvoks_cons.mp hso).2).2
  refine lv_isub hx hb hd ?_
  rw [zo_sub hx' hy]
  have k := hn _ _ _ _ h2 hl hlo (zvoks_cons.mpr ⟨zw32_c _, hs⟩) hlen
  rw [ho] at k
  exact k
theorem zp_imul (S : zST p c b w ad v0 cnt nL lsC ls st) (hn : zNX p l e R s m args below meth c H locs cells slots Q w ad v0 cnt cd nL kn r) (hd : decode b off = .ok (.imul, 1)) (ho : zoff cd (j + 1) = off + 1)
    (h : zi2 none st (fun x y st => kn (j + 1) ls (zI (zw32 (x * y)) :: st)) = some r) : W p l e R s m args below meth c H locs cells slots Q (F0 m off lsC (st.map (zcv ad v0))) := by
  obtain ⟨hx, hb, hl, hlo, hso, hlen⟩ := S
  obtain ⟨x, y, st', rfl, h2⟩ := zi2_some h
  have hy := (zvoks_cons.mp hso).1
  have hx' := (zvoks_cons.mp (zvoks_cons.mp hso).2).1
  have hs := (zvoks_cons.mp (zvoks_cons.mp hso).2).2
  refine lv_imul hx hb hd ?_
  rw [zo_mul hx' hy]
  have k := hn _ _ _ _ h2 hl hlo (zvoks_cons.mpr ⟨zw32_c _, hs⟩) hlen
  rw [ho] at k
  exact k
theorem zp_idiv (S : zST p c b w ad v0 cnt nL lsC ls st) (hn : zNX p l e R s m args below meth c H locs cells slots Q w ad v0 cnt cd nL kn r) (hd : decode b off = .ok (.idiv, 1)) (ho : zoff cd (j + 1) = off + 1)
    (h : zi2 none st (fun x y st => if y = 0 then none else kn (j + 1) ls (zI (zw32 (x.tdiv y)) :: st)) = some r) : W p l e R s m args below meth c H locs cells slots Q (F0 m off lsC (st.map (zcv ad v0))) := by
  obtain ⟨hx, hb, hl, hlo, hso, hlen⟩ := S
  obtain ⟨x, y, st', rfl, h2⟩ := zi2_some h
  split at h2
  · cases h2
  rename_i h0
  have hy := (zvoks_cons.mp hso).1
  have hx' := (zvoks_cons.mp (zvoks_cons.mp hso).2).1
  have hs := (zvoks_cons.mp (zvoks_cons.mp hso).2).2
  refine lv_idiv hx hb hd (fun q => h0 ((zi_eq hy zc32_0).mp (by rw [zi_0]; exact q))) ?_
  rw [zo_div hx' hy]
  have k := hn _ _ _ _ h2 hl hlo (zvoks_cons.mpr ⟨zw32_c _, hs⟩) hlen
  rw [ho] at k
  exact k
theorem zp_irem (S : zST p c b w ad v0 cnt nL lsC ls st) (hn : zNX p l e R s m args below meth c H locs cells slots Q w ad v0 cnt cd nL kn r) (hd : decode b off = .ok (.irem, 1)) (ho : zoff cd (j + 1) = off + 1)
    (h : zi2 none st (fun x y st => if y = 0 then none else kn (j + 1) ls (zI (x.tmod y) :: st)) = some r) : W p l e R s m args below meth c H locs cells slots Q (F0 m off lsC (st.map (zcv ad v0))) := by
  obtain ⟨hx, hb, hl, hlo, hso, hlen⟩ := S
  obtain ⟨x, y, st', rfl, h2⟩ := zi2_some h
  split at h2
  · cases h2
  rename_i h0
  have hy := (zvoks_cons.mp hso).1
  have hx' := (zvoks_cons.mp (zvoks_cons.mp hso).2).1
  have hs := (zvoks_cons.mp (zvoks_cons.mp hso).2).2
  refine lv_irem hx hb hd (fun q => h0 ((zi_eq hy zc32_0).mp (by rw [zi_0]; exact q))) ?_
  rw [zo_rem hx' hy h0]
  have k := hn _ _ _ _ h2 hl hlo (zvoks_cons.mpr ⟨ztm32 hx' hy h0, hs⟩) hlen
  rw [ho] at k
  exact k
theorem zp_iand (S : zST p c b w ad v0 cnt nL lsC ls st) (hn : zNX p l e R s m args below meth c H locs cells slots Q w ad v0 cnt cd nL kn r) (hd : decode b off = .ok (.iand, 1)) (ho : zoff cd (j + 1) = off + 1)
    (h : zi2 none st (fun x y st => kn (j + 1) ls (zI (zand x y) :: st)) = some r) : W p l e R s m args below meth c H locs cells slots Q (F0 m off lsC (st.map (zcv ad v0))) := by
  obtain ⟨hx, hb, hl, hlo, hso, hlen⟩ := S
  obtain ⟨x, y, st', rfl, h2⟩ := zi2_some h
  have hy := (zvoks_cons.mp hso).1
  have hx' := (zvoks_cons.mp (zvoks_cons.mp hso).2).1
  have hs := (zvoks_cons.mp (zvoks_cons.mp hso).2).2
  refine lv_iand hx hb hd ?_
  rw [zo_and]
  have k := hn _ _ _ _ h2 hl hlo (zvoks_cons.mpr ⟨zand_c _ _, hs⟩) hlen
  rw [ho] at k
  exact k
theorem zp_ior (S : zST p c b w ad v0 cnt nL lsC ls st) (hn : zNX p l e R s m args below meth c H locs cells slots Q w ad v0 cnt cd nL kn r) (hd : decode b off = .ok (.ior, 1)) (ho : zoff cd (j + 1) = off + 1)
    (h : zi2 none st (fun x y st => kn (j + 1) ls (zI (zor x y) :: st)) = some r) : W p l e R s m args below meth c H locs cells slots Q (F0 m off lsC (st.map (zcv ad v0))) := by
  obtain ⟨hx, hb, hl, hlo, hso, hlen⟩ := S
  obtain ⟨x, y, st', rfl, h2⟩ := zi2_some h
  have hy := (zvoks_cons.mp hso).1
  have hx' := (zvoks_cons.mp (zvoks_cons.mp hso).2).1
  have hs := (zvoks_cons.mp (zvoks_cons.mp hso).2).2
  refine lv_ior hx hb hd ?_
  rw [zo_or]
  have k := hn _ _ _ _ h2 hl hlo (zvoks_cons.mpr ⟨zor_c _ _, hs⟩) hlen
  rw [ho] at k
  exact k
theorem zp_ixor (S : zST p c b w ad v0 cnt nL lsC ls st) (hn : zNX p l e R s m args below meth c H locs cells slots Q w ad v0 cnt cd nL kn r) (hd : decode b off = .ok (.ixor, 1)) (ho : zoff cd (j + 1) = off + 1)
    (h : zi2 none st (fun x y st => kn (j + 1) ls (zI (zxor x y) :: st)) = some r) : W p l e R s m args below meth c H locs cells slots Q (F0 m off lsC (st.map (zcv ad v0))) := by
  obtain ⟨hx, hb, hl, hlo, hso, hlen⟩ := S
  obtain ⟨x, y, st', rfl, h2⟩ := zi2_some h
  have hy := (zvoks_cons.mp hso).1
  have hx' := (zvoks_cons.mp (zvoks_cons.mp hso).2).1
  have hs := (zvoks_cons.mp (zvoks_cons.mp hso).2).2
  refine lv_ixor hx hb hd ?_
  rw [zo_xor]
  have k := hn _ _ _ _ h2 hl hlo (zvoks_cons.mpr ⟨zxor_c _ _, hs⟩) hlen
  rw [ho] at k
  exact k
theorem zp_ishl (S : zST p c b w ad v0 cnt nL lsC ls st) (hn : zNX p l e R s m args below meth c H locs cells slots Q w ad v0 cnt cd nL kn r) (hd : decode b off = .ok (.ishl, 1)) (ho : zoff cd (j + 1) = off + 1)
    (h : zi2 none st (fun x y st => kn (j + 1) ls (zI (zshl x y) :: st)) = some r) : W p l e R s m args below meth c H locs cells slots Q (F0 m off lsC (st.map (zcv ad v0))) := by
  obtain ⟨hx, hb, hl, hlo, hso, hlen⟩ := S
  obtain ⟨x, y, st', rfl, h2⟩ := zi2_some h
  have hy := (zvoks_cons.mp hso).1
  have hx' := (zvoks_cons.mp (zvoks_cons.mp hso).2).1
  have hs := (zvoks_cons.mp (zvoks_cons.mp hso).2).2
  refine lv_ishl hx hb hd ?_
  rw [zo_shl]
  have k := hn _ _ _ _ h2 hl hlo (zvoks_cons.mpr ⟨zshl_c _ _, hs⟩) hlen
  rw [ho] at k
  exact k
theorem zp_ishr (S : zST p c b w ad v0 cnt nL lsC ls st) (hn : zNX p l e R s m args below meth c H locs cells slots Q w ad v0 cnt cd nL kn r) (hd : decode b off = .ok (.ishr, 1)) (ho : zoff cd (j + 1) = off + 1)
    (h : zi2 none st (fun x y st => kn (j + 1) ls (zI (zshr x y) :: st)) = some r) : W p l e R s m args below meth c H locs cells slots Q (F0 m off lsC (st.map (zcv ad v0))) := by
  obtain ⟨hx, hb, hl, hlo, hso, hlen⟩ := S
  obtain ⟨x, y, st', rfl, h2⟩ := zi2_some h
  have hy := (zvoks_cons.mp hso).1
  have hx' := (zvoks_cons.mp (zvoks_cons.mp hso).2).1
  have hs := (zvoks_cons.mp (zvoks_cons.mp hso).2).2
  refine lv_ishr hx hb hd ?_
  rw [zo_shr hx']
  have k := hn _ _ _ _ h2 hl hlo (zvoks_cons.mpr ⟨zshr_c hx' _, hs⟩) hlen
  rw [ho] at k
  exact k
theorem zp_ladd (S : zST p c b w ad v0 cnt nL lsC ls st) (hn : zNX p l e R s m args below meth c H locs cells slots Q w ad v0 cnt cd nL kn r) (hd : decode b off = .ok (.ladd, 1)) (ho : zoff cd (j + 1) = off + 1)
    (h : zj2 none st (fun x y st => kn (j + 1) ls (zJ (zw64 (x + y)) :: st)) = some r) : W p l e R s m args below meth c H locs cells slots Q (F0 m off lsC (st.map (zcv ad v0))) := by
  obtain ⟨hx, hb, hl, hlo, hso, hlen⟩ := S
  obtain ⟨x, y, st', rfl, h2⟩ := zj2_some h
  have hy := (zvoks_cons.mp hso).1
  have hx' := (zvoks_cons.mp (zvoks_cons.mp hso).2).1
  have hs := (zvoks_cons.mp (zvoks_cons.mp hso).2).2
  refine lv_ladd hx hb hd ?_
  rw [zo_addl hx' hy]
  have k := hn _ _ _ _ h2 hl hlo (zvoks_cons.mpr ⟨zw64_c _, hs⟩) hlen
  rw [ho] at k
  exact k
theorem zp_lsub (S : zST p c b w ad v0 cnt nL lsC ls st) (hn : zNX p l e R s m args below meth c H locs cells slots Q w ad v0 cnt cd nL kn r) (hd : decode b off = .ok (.lsub, 1)) (ho : zoff cd (j + 1) = off + 1)
    (h : zj2 none st (fun x y st => kn (j + 1) ls (zJ (zw64 (x - y)) :: st)) = some r) : W p l e R s m args below meth c H locs cells slots Q (F0 m off lsC (st.map (zcv ad v0))) := by
  obtain ⟨hx, hb, hl, hlo, hso, hlen⟩ := S
  obtain ⟨x, y, st', rfl, h2⟩ := zj2_some h
  have hy := (zvoks_cons.mp hso).1
  have hx' := (zvoks_cons.mp (zvoks_cons.mp hso).2).1
  have hs := (zvoks_cons.mp (zvoks_cons.mp hso).2).2
  refine lv_lsub hx hb hd ?_
  rw [zo_subl hx' hy]
  have k := hn _ _ _ _ h2 hl hlo (zvoks_cons.mpr ⟨zw64_c _, hs⟩) hlen
  rw [ho] at k
  exact k
theorem zp_lmul (S : zST p c b w ad v0 cnt nL lsC ls st) (hn : zNX p l e R s m args below meth c H locs cells slots Q w ad v0 cnt cd nL kn r) (hd : decode b off = .ok (.lmul, 1)) (ho : zoff cd (j + 1) = off + 1)
    (h : zj2 none st (fun x y st => kn (j + 1) ls (zJ (zw64 (x * y)) :: st)) = some r) : W p l e R s m args below meth c H locs cells slots Q (F0 m off lsC (st.map (zcv ad v0))) := by
  obtain ⟨hx, hb, hl, hlo, hso, hlen⟩ := S
  obtain ⟨x, y, st', rfl, h2⟩ := zj2_some h
  have hy := (zvoks_cons.mp hso).1
  have hx' := (zvoks_cons.mp (zvoks_cons.mp hso).2).1
  have hs := (zvoks_cons.mp (zvoks_cons.mp hso).2).2
  refine lv_lmul hx hb hd ?_
  rw [zo_mull hx' hy]
  have k := hn _ _ _ _ h2 hl hlo (zvoks_cons.mpr ⟨zw64_c _, hs⟩) hlen
  rw [ho] at k
  exact k
theorem zp_ldiv (S : zST p c b w ad v0 cnt nL lsC ls st) (hn : zNX p l e R s m args below meth c H locs cells slots Q w ad v0 cnt cd nL kn r) (hd : decode b off = .ok (.ldiv, 1)) (ho : zoff cd (j + 1) = off + 1)
    (h : zj2 none st (fun x y st => if y = 0 then none else kn (j + 1) ls (zJ (zw64 (x.tdiv y)) :: st)) = some r) : W p l e R s m args below meth c H locs cells slots Q (F0 m off lsC (st.map (zcv ad v0))) := by
  obtain ⟨hx, hb, hl, hlo, hso, hlen⟩ := S
  obtain ⟨x, y, st', rfl, h2⟩ := zj2_some h
  split at h2
  · cases h2
  rename_i h0
  have hy := (zvoks_cons.mp hso).1
  have hx' := (zvoks_cons.mp (zvoks_cons.mp hso).2).1
  have hs := (zvoks_cons.mp (zvoks_cons.mp hso).2).2
  refine lv_ldiv hx hb hd (fun q => h0 ((zl_eq hy zc64_0).mp (q.trans rfl))) ?_
  rw [zo_divl hx' hy]
  have k := hn _ _ _ _ h2 hl hlo (zvoks_cons.mpr ⟨zw64_c _, hs⟩) hlen
  rw [ho] at k
  exact k
theorem zp_lrem (S : zST p c b w ad v0 cnt nL lsC ls st) (hn : zNX p l e R s m args below meth c H locs cells slots Q w ad v0 cnt cd nL kn r) (hd : decode b off = .ok (.lrem, 1)) (ho : zoff cd (j + 1) = off + 1)
    (h : zj2 none st (fun x y st => if y = 0 then none else kn (j + 1) ls (zJ (x.tmod y) :: st)) = some r) : W p l e R s m args below meth c H locs cells slots Q (F0 m off lsC (st.map (zcv ad v0))) := by
  obtain ⟨hx, hb, hl, hlo, hso, hlen⟩ := S
  obtain ⟨x, y, st', rfl, h2⟩ := zj2_some h
  split at h2
  · cases h2
  rename_i h0
  have hy := (zvoks_cons.mp hso).1
  have hx' := (zvoks_cons.mp (zvoks_cons.mp hso).2).1
  have hs := (zvoks_cons.mp (zvoks_cons.mp hso).2).2
  refine lv_lrem hx hb hd (fun q => h0 ((zl_eq hy zc64_0).mp (q.trans rfl))) ?_
  rw [zo_reml hx' hy h0]
  have k := hn _ _ _ _ h2 hl hlo (zvoks_cons.mpr ⟨ztm64 hx' hy h0, hs⟩) hlen
  rw [ho] at k
  exact k
theorem zp_land (S : zST p c b w ad v0 cnt nL lsC ls st) (hn : zNX p l e R s m args below meth c H locs cells slots Q w ad v0 cnt cd nL kn r) (hd : decode b off = .ok (.land, 1)) (ho : zoff cd (j + 1) = off + 1)
    (h : zj2 none st (fun x y st => kn (j + 1) ls (zJ (zandL x y) :: st)) = some r) : W p l e R s m args below meth c H locs cells slots Q (F0 m off lsC (st.map (zcv ad v0))) := by
  obtain ⟨hx, hb, hl, hlo, hso, hlen⟩ := S
  obtain ⟨x, y, st', rfl, h2⟩ := zj2_some h
  have hy := (zvoks_cons.mp hso).1
  have hx' := (zvoks_cons.mp (zvoks_cons.mp hso).2).1
  have hs := (zvoks_cons.mp (zvoks_cons.mp hso).2).2
  refine lv_land hx hb hd ?_
  rw [zo_andl]
  have k := hn _ _ _ _ h2 hl hlo (zvoks_cons.mpr ⟨zandL_c _ _, hs⟩) hlen
  rw [ho] at k
  exact k
theorem zp_lor (S : zST p c b w ad v0 cnt nL lsC ls st) (hn : zNX p l e R s m args below meth c H locs cells slots Q w ad v0 cnt cd nL kn r) (hd : decode b off = .ok (.lor, 1)) (ho : zoff cd (j + 1) = off + 1)
    (h : zj2 none st (fun x y st => kn (j + 1) ls (zJ (zorL x y) :: st)) = some r) : W p l e R s m args below meth c H locs cells slots Q (F0 m off lsC (st.map (zcv ad v0))) := by
  obtain ⟨hx, hb, hl, hlo, hso, hlen⟩ := S
  obtain ⟨x, y, st', rfl, h2⟩ := zj2_some h
  have hy := (zvoks_cons.mp hso).1
  have hx' := (zvoks_cons.mp (zvoks_cons.mp hso).2).1
  have hs := (zvoks_cons.mp (zvoks_cons.mp hso).2).2
  refine lv_lor hx hb hd ?_
  rw [zo_orl]
  have k := hn _ _ _ _ h2 hl hlo (zvoks_cons.mpr ⟨zorL_c _ _, hs⟩) hlen
  rw [ho] at k
  exact k
theorem zp_lxor (S : zST p c b w ad v0 cnt nL lsC ls st) (hn : zNX p l e R s m args below meth c H locs cells slots Q w ad v0 cnt cd nL kn r) (hd : decode b off = .ok (.lxor, 1)) (ho : zoff cd (j + 1) = off + 1)
    (h : zj2 none st (fun x y st => kn (j + 1) ls (zJ (zxorL x y) :: st)) = some r) : W p l e R s m args below meth c H locs cells slots Q (F0 m off lsC (st.map (zcv ad v0))) := by
  obtain ⟨hx, hb, hl, hlo, hso, hlen⟩ := S
  obtain ⟨x, y, st', rfl, h2⟩ := zj2_some h
  have hy := (zvoks_cons.mp hso).1
  have hx' := (zvoks_cons.mp (zvoks_cons.mp hso).2).1
  have hs := (zvoks_cons.mp (zvoks_cons.mp hso).2).2
  refine lv_lxor hx hb hd ?_
  rw [zo_xorl]
  have k := hn _ _ _ _ h2 hl hlo (zvoks_cons.mpr ⟨zxorL_c _ _, hs⟩) hlen
  rw [ho] at k
  exact k
theorem zp_iushr (S : zST p c b w ad v0 cnt nL lsC ls st) (hn : zNX p l e R s m args below meth c H locs cells slots Q w ad v0 cnt cd nL kn r) (hd : decode b off = .ok (.iushr, 1)) (ho : zoff cd (j + 1) = off + 1)
    (h : zi2 none st (fun x y st => kn (j + 1) ls (zI (zushr x y) :: st)) = some r) : W p l e R s m args below meth c H locs cells slots Q (F0 m off lsC (st.map (zcv ad v0))) := by
  obtain ⟨hx, hb, hl, hlo, hso, hlen⟩ := S
  obtain ⟨x, y, st', rfl, h2⟩ := zi2_some h
  have hy := (zvoks_cons.mp hso).1
  have hx' := (zvoks_cons.mp (zvoks_cons.mp hso).2).1
  have hs := (zvoks_cons.mp (zvoks_cons.mp hso).2).2
  refine lv_iushr hx hb hd (zo_ushr _ _) ?_
  have k := hn _ _ _ _ h2 hl hlo (zvoks_cons.mpr ⟨zushr_c _ _, hs⟩) hlen
  rw [ho] at k
  exact k
theorem zp_lshl (S : zST p c b w ad v0 cnt nL lsC ls st) (hn : zNX p l e R s m args below meth c H locs cells slots Q w ad v0 cnt cd nL kn r) (hd : decode b off = .ok (.lshl, 1)) (ho : zoff cd (j + 1) = off + 1)
    (h : zji none st (fun x y st => kn (j + 1) ls (zJ (zshlL x y) :: st)) = some r) : W p l e R s m args below meth c H locs cells slots Q (F0 m off lsC (st.map (zcv ad v0))) := by
  obtain ⟨hx, hb, hl, hlo, hso, hlen⟩ := S
  obtain ⟨x, y, st', rfl, h2⟩ := zji_some h
  have hy := (zvoks_cons.mp hso).1
  have hx' := (zvoks_cons.mp (zvoks_cons.mp hso).2).1
  have hs := (zvoks_cons.mp (zvoks_cons.mp hso).2).2
  refine lv_lshl hx hb hd (zo_shll _ hy) ?_
  have k := hn _ _ _ _ h2 hl hlo (zvoks_cons.mpr ⟨zshlL_c _ _, hs⟩) hlen
  rw [ho] at k
  exact k
theorem zp_lushr (S : zST p c b w ad v0 cnt nL lsC ls st) (hn : zNX p l e R s m args below meth c H locs cells slots Q w ad v0 cnt cd nL kn r) (hd : decode b off = .ok (.lushr, 1)) (ho : zoff cd (j + 1) = off + 1)
    (h : zji none st (fun x y st => kn (j + 1) ls (zJ (zushrL x y) :: st)) = some r) : W p l e R s m args below meth c H locs cells slots Q (F0 m off lsC (st.map (zcv ad v0))) := by
  obtain ⟨hx, hb, hl, hlo, hso, hlen⟩ := S
  obtain ⟨x, y, st', rfl, h2⟩ := zji_some h
  have hy := (zvoks_cons.mp hso).1
  have hx' := (zvoks_cons.mp (zvoks_cons.mp hso).2).1
  have hs := (zvoks_cons.mp (zvoks_cons.mp hso).2).2
  refine lv_lushr hx hb hd (zo_ushrl _ hy) ?_
  have k := hn _ _ _ _ h2 hl hlo (zvoks_cons.mpr ⟨zushrL_c _ _, hs⟩) hlen
  rw [ho] at k
  exact k
theorem zp_lcmp (S : zST p c b w ad v0 cnt nL lsC ls st) (hn : zNX p l e R s m args below meth c H locs cells slots Q w ad v0 cnt cd nL kn r) (hd : decode b off = .ok (.lcmp, 1)) (ho : zoff cd (j + 1) = off + 1)
    (h : zj2 none st (fun x y st => kn (j + 1) ls (zI (zcmp x y) :: st)) = some r) : W p l e R s m args below meth c H locs cells slots Q (F0 m off lsC (st.map (zcv ad v0))) := by
  obtain ⟨hx, hb, hl, hlo, hso, hlen⟩ := S
  obtain ⟨x, y, st', rfl, h2⟩ := zj2_some h
  have hy := (zvoks_cons.mp hso).1
  have hx' := (zvoks_cons.mp (zvoks_cons.mp hso).2).1
  have hs := (zvoks_cons.mp (zvoks_cons.mp hso).2).2
  refine W.lcmp hx hb hd ?_
  rw [zo_cmp hx' hy]
  have k := hn _ _ _ _ h2 hl hlo (zvoks_cons.mpr ⟨zcmp_c _ _, hs⟩) hlen
  rw [ho] at k
  exact k
theorem zp_ineg (S : zST p c b w ad v0 cnt nL lsC ls st) (hn : zNX p l e R s m args below meth c H locs cells slots Q w ad v0 cnt cd nL kn r) (hd : decode b off = .ok (.ineg, 1)) (ho : zoff cd (j + 1) = off + 1)
    (h : zi1 none st (fun x st => kn (j + 1) ls (zI (zw32 (-x)) :: st)) = some r) : W p l e R s m args below meth c H locs cells slots Q (F0 m off lsC (st.map (zcv ad v0))) := by
  obtain ⟨hx, hb, hl, hlo, hso, hlen⟩ := S
  obtain ⟨x, st', rfl, h2⟩ := zi1_some h
  have hx' := (zvoks_cons.mp hso).1
  have hs := (zvoks_cons.mp hso).2
  refine lv_ineg hx hb hd ?_
  rw [zo_neg hx']
  have k := hn _ _ _ _ h2 hl hlo (zvoks_cons.mpr ⟨zw32_c _, hs⟩) hlen
  rw [ho] at k
  exact k
theorem zp_lneg (S : zST p c b w ad v0 cnt nL lsC ls st) (hn : zNX p l e R s m args below meth c H locs cells slots Q w ad v0 cnt cd nL kn r) (hd : decode b off = .ok (.lneg, 1)) (ho : zoff cd (j + 1) = off + 1)
    (h : zj1 none st (fun x st => kn (j + 1) ls (zJ (zw64 (-x)) :: st)) = some r) : W p l e R s m args below meth c H locs cells slots Q (F0 m off lsC (st.map (zcv ad v0))) := by
  obtain ⟨hx, hb, hl, hlo, hso, hlen⟩ := S
  obtain ⟨x, st', rfl, h2⟩ := zj1_some h
  have hx' := (zvoks_cons.mp hso).1
  have hs := (zvoks_cons.mp hso).2
  refine lv_lneg hx hb hd ?_
  rw [zo_negl hx']
  have k := hn _ _ _ _ h2 hl hlo (zvoks_cons.mpr ⟨zw64_c _, hs⟩) hlen
  rw [ho] at k
  exact k
theorem zp_i2l (S : zST p c b w ad v0 cnt nL lsC ls st) (hn : zNX p l e R s m args below meth c H locs cells slots Q w ad v0 cnt cd nL kn r) (hd : decode b off = .ok (.i2l, 1)) (ho : zoff cd (j + 1) = off + 1)
    (h : zi1 none st (fun x st => kn (j + 1) ls (zJ x :: st)) = some r) : W p l e R s m args below meth c H locs cells slots Q (F0 m off lsC (st.map (zcv ad v0))) := by
  obtain ⟨hx, hb, hl, hlo, hso, hlen⟩ := S
  obtain ⟨x, st', rfl, h2⟩ := zi1_some h
  have hx' := (zvoks_cons.mp hso).1
  have hs := (zvoks_cons.mp hso).2
  refine lv_i2l hx hb hd (zo_i2l hx') ?_
  have k := hn _ _ _ _ h2 hl hlo (zvoks_cons.mpr ⟨(⟨by have := hx'.1; omega, by have := hx'.2; omega⟩ : zc64 _), hs⟩) hlen
  rw [ho] at k
  exact k
theorem zp_l2i (S : zST p c b w ad v0 cnt nL lsC ls st) (hn : zNX p l e R s m args below meth c H locs cells slots Q w ad v0 cnt cd nL kn r) (hd : decode b off = .ok (.l2i, 1)) (ho : zoff cd (j + 1) = off + 1)
    (h : zj1 none st (fun x st => kn (j + 1) ls (zI (zw32 x) :: st)) = some r) : W p l e R s m args below meth c H locs cells slots Q (F0 m off lsC (st.map (zcv ad v0))) := by
  obtain ⟨hx, hb, hl, hlo, hso, hlen⟩ := S
  obtain ⟨x, st', rfl, h2⟩ := zj1_some h
  have hx' := (zvoks_cons.mp hso).1
  have hs := (zvoks_cons.mp hso).2
  refine lv_l2i hx hb hd (zo_l2i hx') ?_
  have k := hn _ _ _ _ h2 hl hlo (zvoks_cons.mpr ⟨zw32_c _, hs⟩) hlen
  rw [ho] at k
  exact k
theorem zp_i2b (S : zST p c b w ad v0 cnt nL lsC ls st) (hn : zNX p l e R s m args below meth c H locs cells slots Q w ad v0 cnt cd nL kn r) (hd : decode b off = .ok (.i2b, 1)) (ho : zoff cd (j + 1) = off + 1)
    (h : zi1 none st (fun x st => kn (j + 1) ls (zI (zw8 x) :: st)) = some r) : W p l e R s m args below meth c H locs cells slots Q (F0 m off lsC (st.map (zcv ad v0))) := by
  obtain ⟨hx, hb, hl, hlo, hso, hlen⟩ := S
  obtain ⟨x, st', rfl, h2⟩ := zi1_some h
  have hx' := (zvoks_cons.mp hso).1
  have hs := (zvoks_cons.mp hso).2
  refine lv_i2b hx hb hd (zo_i2b hx') ?_
  have k := hn _ _ _ _ h2 hl hlo (zvoks_cons.mpr ⟨(by have := zw8_c x; exact ⟨by show _ ≤ zw8 x; omega, by show zw8 x < _; omega⟩), hs⟩) hlen
  rw [ho] at k
  exact k
theorem zp_i2s (S : zST p c b w ad v0 cnt nL lsC ls st) (hn : zNX p l e R s m args below meth c H locs cells slots Q w ad v0 cnt cd nL kn r) (hd : decode b off = .ok (.i2s, 1)) (ho : zoff cd (j + 1) = off + 1)
    (h : zi1 none st (fun x st => kn (j + 1) ls (zI (zw16 x) :: st)) = some r) : W p l e R s m args below meth c H locs cells slots Q (F0 m off lsC (st.map (zcv ad v0))) := by
  obtain ⟨hx, hb, hl, hlo, hso, hlen⟩ := S
  obtain ⟨x, st', rfl, h2⟩ := zi1_some h
  have hx' := (zvoks_cons.mp hso).1
  have hs := (zvoks_cons.mp hso).2
  refine lv_i2s hx hb hd (zo_i2s hx') ?_
  have k := hn _ _ _ _ h2 hl hlo (zvoks_cons.mpr ⟨(by have := zw16_c x; exact ⟨by show _ ≤ zw16 x; omega, by show zw16 x < _; omega⟩), hs⟩) hlen
  rw [ho] at k
  exact k
theorem zp_i2c (S : zST p c b w ad v0 cnt nL lsC ls st) (hn : zNX p l e R s m args below meth c H locs cells slots Q w ad v0 cnt cd nL kn r) (hd : decode b off = .ok (.i2c, 1)) (ho : zoff cd (j + 1) = off + 1)
    (h : zi1 none st (fun x st => kn (j + 1) ls (zI (x % 65536) :: st)) = some r) : W p l e R s m args below meth c H locs cells slots Q (F0 m off lsC (st.map (zcv ad v0))) := by
  obtain ⟨hx, hb, hl, hlo, hso, hlen⟩ := S
  obtain ⟨x, st', rfl, h2⟩ := zi1_some h
  have hx' := (zvoks_cons.mp hso).1
  have hs := (zvoks_cons.mp hso).2
  refine lv_i2c hx hb hd (zo_i2c _) ?_
  have k := hn _ _ _ _ h2 hl hlo (zvoks_cons.mpr ⟨(⟨by show _ ≤ x % 65536; omega, by show x % 65536 < _; omega⟩ : zc32 _), hs⟩) hlen
  rw [ho] at k
  exact k
end
