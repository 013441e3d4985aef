/-! A small machine: words are tagged Int, memory is (object number, slot) ↦ Int. 'zstp' is one instruction, in continuation form. -/
abbrev zV : Type := Int ⊕ (Int ⊕ ((Int × Int × Int) ⊕ Unit))
abbrev zI (x : Int) : zV := .inl x
abbrev zJ (x : Int) : zV := .inr (.inl x)
abbrev zA (c n a : Int) : zV := .inr (.inr (.inl (c, n, a)))
abbrev zU : zV := .inr (.inr (.inr ()))
abbrev zMem : Type := Int → Int → Int
def zw8 (z : Int) : Int := Int.bmod z 256
def zw16 (z : Int) : Int := Int.bmod z 65536
def zw32 (z : Int) : Int := Int.bmod z 4294967296
def zw64 (z : Int) : Int := Int.bmod z 18446744073709551616
def zu32 (z : Int) : Nat := (z % 4294967296).toNat
def zu64 (z : Int) : Nat := (z % 18446744073709551616).toNat
def zand (x y : Int) : Int := zw32 ((zu32 x &&& zu32 y : Nat) : Int)
def zor (x y : Int) : Int := zw32 ((zu32 x ||| zu32 y : Nat) : Int)
def zxor (x y : Int) : Int := zw32 ((zu32 x ^^^ zu32 y : Nat) : Int)
def zandL (x y : Int) : Int := zw64 ((zu64 x &&& zu64 y : Nat) : Int)
def zorL (x y : Int) : Int := zw64 ((zu64 x ||| zu64 y : Nat) : Int)
def zxorL (x y : Int) : Int := zw64 ((zu64 x ^^^ zu64 y : Nat) : Int)
def zshl (x s : Int) : Int := zw32 (x * 2 ^ (zu32 s % 32))
def zshr (x s : Int) : Int := x / 2 ^ (zu32 s % 32)
def zushr (x s : Int) : Int := zw32 ((zu32 x / 2 ^ (zu32 s % 32) : Nat) : Int)
def zshlL (x s : Int) : Int := zw64 (x * 2 ^ (zu32 s % 64))
def zushrL (x s : Int) : Int := zw64 ((zu64 x / 2 ^ (zu32 s % 64) : Nat) : Int)
def zcmp (x y : Int) : Int := if x < y then -1 else if x = y then 0 else 1
/-- the arithmetic, by numbers -/
def zarR (o : Nat) (x y : Int) : Int := match o with
  | 0 => zw32 (x + y)
  | 1 => zw32 (x - y)
  | 2 => zw32 (x * y)
  | 3 => zw32 (x.tdiv y)
  | 4 => x.tmod y
  | 5 => zw32 (-x)
  | 6 => zand x y
  | 7 => zor x y
  | 8 => zxor x y
  | 9 => zshl x y
  | 10 => zshr x y
  | 11 => zushr x y
  | 12 => zw64 (x + y)
  | 13 => zw64 (x - y)
  | 14 => zw64 (x * y)
  | 15 => zw64 (x.tdiv y)
  | 16 => zw64 (-x)
  | 17 => zandL x y
  | 18 => zorL x y
  | 19 => zxorL x y
  | 20 => zshlL x y
  | 21 => zushrL x y
  | 22 => zcmp x y
  | 23 => zw32 x
  | 24 => zw8 x
  | 25 => zw16 x
  | 26 => x % 65536
  | _ => 0
noncomputable def zhide {α : Type} (a : α) : {x : α // x = a} := Classical.choice ⟨⟨a, rfl⟩⟩
/-- the same, but nothing opens it -/
noncomputable def zar : Nat → Int → Int → Int := (zhide zarR).val
theorem zar_eq : zar = zarR := (zhide zarR).property
def znth {β : Type} : List β → Nat → Option β
  | [], _ => none
  | a :: _, 0 => some a
  | _ :: l, n + 1 => znth l n
def zlng : Nat → zV → zV
  | 0, .inr (.inl _) => zU
  | _, a => a
def zst1 : List zV → Nat → zV → List zV
  | [], _, _ => []
  | _ :: l, 0, v => v :: l
  | a :: l, n + 1, v => zlng n a :: zst1 l n v
def zst2 : List zV → Nat → zV → List zV
  | [], _, _ => []
  | _ :: [], 0, v => [v]
  | _ :: _ :: l, 0, v => v :: zU :: l
  | a :: l, n + 1, v => zlng n a :: zst2 l n v
def zcat : zV → Nat
  | .inr (.inl _) => 2
  | _ => 1
def zcats : List zV → Nat
  | [] => 0
  | a :: l => zcat a + zcats l
def zspread : List zV → List zV
  | [] => []
  | .inr (.inl x) :: r => zJ x :: zU :: zspread r
  | .inl x :: r => zI x :: zspread r
  | .inr (.inr x) :: r => .inr (.inr x) :: zspread r
def zent (n : Nat) (as : List zV) : List zV := zspread as ++ List.replicate (n - (zspread as).length) zU
/-- a number whose definition is high: what is above it is opened before 'ite' -/
def zT0 : Nat := 0
def zT1 : Nat := zT0
def zT2 : Nat := zT1
def zT3 : Nat := zT2
def zT4 : Nat := zT3
def zT5 : Nat := zT4
def zT6 : Nat := zT5
def zT7 : Nat := zT6
def zT8 : Nat := zT7
/-- what a call's answer is on the stack: kind 0 nothing, 2 a long, 3 a reference with its tag, else an int -/
def zpush (k : Nat) (c n : Int) (r : Int) (st : List zV) : List zV := match k with
  | 0 => st
  | 2 => zJ r :: st
  | 3 => zA c n r :: st
  | _ => zI r :: st
section
variable {α : Type}
def zi1 (kf : α) (st : List zV) (f : Int → List zV → α) : α := match st, zT8 with
  | .inl x :: st , _ => f x st
  | _, _ => kf
def zi2 (kf : α) (st : List zV) (f : Int → Int → List zV → α) : α := match st, zT8 with
  | .inl y :: .inl x :: st , _ => f x y st
  | _, _ => kf
def zj1 (kf : α) (st : List zV) (f : Int → List zV → α) : α := match st, zT8 with
  | .inr (.inl x) :: st , _ => f x st
  | _, _ => kf
def zj2 (kf : α) (st : List zV) (f : Int → Int → List zV → α) : α := match st, zT8 with
  | .inr (.inl y) :: .inr (.inl x) :: st , _ => f x y st
  | _, _ => kf
def zji (kf : α) (st : List zV) (f : Int → Int → List zV → α) : α := match st, zT8 with
  | .inl y :: .inr (.inl x) :: st , _ => f x y st
  | _, _ => kf
def zr1 (kf : α) (st : List zV) (f : Int → Int → Int → List zV → α) : α := match st, zT8 with
  | .inr (.inr (.inl (c, n, a))) :: st , _ => f c n a st
  | _, _ => kf
def zri (kf : α) (st : List zV) (f : Int → Int → Int → Int → List zV → α) : α := match st, zT8 with
  | .inl i :: .inr (.inr (.inl (c, n, a))) :: st , _ => f c n a i st
  | _, _ => kf
def zrii (kf : α) (st : List zV) (f : Int → Int → Int → Int → Int → List zV → α) : α := match st, zT8 with
  | .inl x :: .inl i :: .inr (.inr (.inl (c, n, a))) :: st , _ => f c n a i x st
  | _, _ => kf
def zrij (kf : α) (st : List zV) (f : Int → Int → Int → Int → Int → List zV → α) : α := match st, zT8 with
  | .inr (.inl x) :: .inl i :: .inr (.inr (.inl (c, n, a))) :: st , _ => f c n a i x st
  | _, _ => kf
def zrir (kf : α) (st : List zV) (f : Int → Int → Int → Int → Int → Int → Int → List zV → α) : α := match st, zT8 with
  | .inr (.inr (.inl (c2, n2, x))) :: .inl i :: .inr (.inr (.inl (c, n, a))) :: st , _ => f c n a i c2 n2 x st
  | _, _ => kf
def zsw (x : Int) (kn : Nat → α) (d : Nat) : Int → List Nat → α
  | _, [] => kn d
  | v, t :: r => if x = v then kn t else zsw x kn d (v + 1) r
def zlk (x : Int) (kn : Nat → α) (d : Nat) : List Int → List Nat → α
  | v :: vs, t :: r => if x = v then kn t else zlk x kn d vs r
  | _, _ => kn d
def zcond (c : Jvm.ClassFile.Cond) (x y : Int) (a b : α) : α := match c with
  | .eq => if x = y then a else b
  | .ne => if x = y then b else a
  | .lt => if x < y then a else b
  | .ge => if x < y then b else a
  | .gt => if y < x then a else b
  | .le => if y < x then b else a
def zfill {M : Type} (wr : M → Int → Int → Int → M) (m : M) (a : Int) (f : Int → Int) : Nat → M
  | 0 => m
  | n + 1 => wr (zfill wr m a f n) a n (f n)
end
/-- the tag of an element of an array of references, by the array's code -/
def zet (c : Int) : Int × Int := if c = 30 then (2, 2) else if c = 31 then (6, 1) else if c = 34 then (40, 0) else (22, 4096)
section
variable {α M : Type} (ar : Nat → Int → Int → Int) (ph : Bool) (K : Int → Int × Int) (R : Int → Int → Int) (rd : M → Int → Int → Int) (wr : M → Int → Int → Int → M) (cp : M → Int → Int → Int → Int → Int → Option M)
  (kn : Nat → List zV → List zV → M → α) (kc : Nat → List zV → M → Nat → Int → Int → Nat → List zV → List zV → α) (kr : Int → M → α) (kf : α)
def zretI (k : Nat) (x : Int) (m : M) : α := match k with
  | 1 => kr x m
  | 4 => if 0 ≤ x ∧ x ≤ 1 then kr x m else kf
  | 5 => if 0 ≤ x ∧ x ≤ 65535 then kr x m else kf
  | _ => if -128 ≤ x ∧ x ≤ 127 then kr x m else kf
def zgetf (k : Int) (ty : Nat) (c2 n2 : Int) (a : Int) (m : M) (f : zV → α) : α := match ty with
  | 1 => f (zI (rd m a k))
  | 2 => f (zJ (rd m a k))
  | 3 => match ph with
    | true => f (zA c2 n2 (R a k))
    | false => if rd m a k = 1 then f (zA c2 n2 (R a k)) else kf
  | 4 => f (zI (R a k))
  | _ => f (zA c2 n2 (R a k))
def zputf (c : Nat) (k : Int) (ty : Nat) (c2 n2 : Int) (st : List zV) (m : M) (f : List zV → M → α) : α := match ty with
  | 1 => match st with
    | .inl x :: .inr (.inr (.inl (c', _, a))) :: st => if c' = c then f st (wr m a k x) else kf
    | _ => kf
  | 2 => match st with
    | .inr (.inl x) :: .inr (.inr (.inl (c', _, a))) :: st => if c' = c then f st (wr m a k x) else kf
    | _ => kf
  | 6 => match st with
    | .inl x :: .inr (.inr (.inl (c', _, a))) :: st => if c' = c ∧ 0 ≤ x ∧ x ≤ 1 then f st (wr m a k x) else kf
    | _ => kf
  | _ => match ph with
    | true => kf
    | false => match st with
      | .inr (.inr (.inl (c3, n3, b))) :: .inr (.inr (.inl (c', _, a))) :: st => if c' = c ∧ c3 = c2 ∧ n3 = n2 ∧ b = R a k then f st (wr m a k 1) else kf
      | _ => kf
def zinvoke (an : List Nat) (az : List Int) (pc : Nat) (ls st : List zV) (m : M) : α := match an with
  | [_, y, n, k] => match az with
    | [c2, n2] => if zcats (st.drop n) ≤ 8 ∧ n ≤ st.length then kc y (st.take n).reverse m k c2 n2 (pc + 1) ls (st.drop n) else kf
    | _ => kf
  | _ => kf
/-- the receiver of a call has the class that the entry names -/
def zrecv (c : Int) (n : Nat) (st : List zV) (a : α) : α := match znth st (n - 1) with
  | some (.inr (.inr (.inl (c', _, _)))) => if c' = c then a else kf
  | _ => kf
def zstp (pc : Nat) (ls st : List zV) (m : M) (i : Jvm.ClassFile.Instr) (an : List Nat) (az : List Int) : α := match i with
  | .iconst n => kn (pc + 1) ls (zI n :: st) m
  | .bipush n => kn (pc + 1) ls (zI n :: st) m
  | .sipush n => kn (pc + 1) ls (zI n :: st) m
  | .lconst n => match n with
    | 0 => kn (pc + 1) ls (zJ 0 :: st) m
    | 1 => kn (pc + 1) ls (zJ 1 :: st) m
  | .ldc _ => match an, az with
    | [_, 0], [v] => kn (pc + 1) ls (zI v :: st) m
    | [_, 1], [a] => kn (pc + 1) ls (zA 40 0 a :: st) m
    | _, _ => kf
  | .ldc_w _ => match an, az with
    | [_, 0], [v] => kn (pc + 1) ls (zI v :: st) m
    | _, _ => kf
  | .ldc2_w _ => match az with
    | [v] => kn (pc + 1) ls (zJ v :: st) m
    | _ => kf
  | .iload n => match znth ls n with
    | some (.inl x) => kn (pc + 1) ls (zI x :: st) m
    | _ => kf
  | .iload_n n => match znth ls n.val with
    | some (.inl x) => kn (pc + 1) ls (zI x :: st) m
    | _ => kf
  | .lload n => match znth ls n with
    | some (.inr (.inl x)) => kn (pc + 1) ls (zJ x :: st) m
    | _ => kf
  | .lload_n n => match znth ls n.val with
    | some (.inr (.inl x)) => kn (pc + 1) ls (zJ x :: st) m
    | _ => kf
  | .aload n => match znth ls n with
    | some (.inr (.inr (.inl q))) => kn (pc + 1) ls (.inr (.inr (.inl q)) :: st) m
    | _ => kf
  | .aload_n n => match znth ls n.val with
    | some (.inr (.inr (.inl q))) => kn (pc + 1) ls (.inr (.inr (.inl q)) :: st) m
    | _ => kf
  | .istore n => zi1 kf st fun x st => if n < ls.length then kn (pc + 1) (zst1 ls n (zI x)) st m else kf
  | .istore_n n => zi1 kf st fun x st => if n.val < ls.length then kn (pc + 1) (zst1 ls n.val (zI x)) st m else kf
  | .lstore n => zj1 kf st fun x st => if n + 1 < ls.length then kn (pc + 1) (zst2 ls n (zJ x)) st m else kf
  | .lstore_n n => zj1 kf st fun x st => if n.val + 1 < ls.length then kn (pc + 1) (zst2 ls n.val (zJ x)) st m else kf
  | .astore n => zr1 kf st fun c k a st => if n < ls.length then kn (pc + 1) (zst1 ls n (zA c k a)) st m else kf
  | .astore_n n => zr1 kf st fun c k a st => if n.val < ls.length then kn (pc + 1) (zst1 ls n.val (zA c k a)) st m else kf
  | .iinc n v => match znth ls n with
    | some (.inl x) => kn (pc + 1) (zst1 ls n (zI (ar 0 x v))) st m
    | _ => kf
  | .iadd => zi2 kf st fun x y st => kn (pc + 1) ls (zI (ar 0 x y) :: st) m
  | .isub => zi2 kf st fun x y st => kn (pc + 1) ls (zI (ar 1 x y) :: st) m
  | .imul => zi2 kf st fun x y st => kn (pc + 1) ls (zI (ar 2 x y) :: st) m
  | .idiv => zi2 kf st fun x y st => if y = 0 then kf else kn (pc + 1) ls (zI (ar 3 x y) :: st) m
  | .irem => zi2 kf st fun x y st => if y = 0 then kf else kn (pc + 1) ls (zI (ar 4 x y) :: st) m
  | .ineg => zi1 kf st fun x st => kn (pc + 1) ls (zI (ar 5 x 0) :: st) m
  | .iand => zi2 kf st fun x y st => kn (pc + 1) ls (zI (ar 6 x y) :: st) m
  | .ior => zi2 kf st fun x y st => kn (pc + 1) ls (zI (ar 7 x y) :: st) m
  | .ixor => zi2 kf st fun x y st => kn (pc + 1) ls (zI (ar 8 x y) :: st) m
  | .ishl => zi2 kf st fun x y st => kn (pc + 1) ls (zI (ar 9 x y) :: st) m
  | .ishr => zi2 kf st fun x y st => kn (pc + 1) ls (zI (ar 10 x y) :: st) m
  | .iushr => zi2 kf st fun x y st => kn (pc + 1) ls (zI (ar 11 x y) :: st) m
  | .ladd => zj2 kf st fun x y st => kn (pc + 1) ls (zJ (ar 12 x y) :: st) m
  | .lsub => zj2 kf st fun x y st => kn (pc + 1) ls (zJ (ar 13 x y) :: st) m
  | .lmul => zj2 kf st fun x y st => kn (pc + 1) ls (zJ (ar 14 x y) :: st) m
  | .ldiv => zj2 kf st fun x y st => if y = 0 then kf else kn (pc + 1) ls (zJ (ar 15 x y) :: st) m
  | .lrem => zj2 kf st fun x y st => if y = 0 then kf else kn (pc + 1) ls (zJ (ar 4 x y) :: st) m
  | .lneg => zj1 kf st fun x st => kn (pc + 1) ls (zJ (ar 16 x 0) :: st) m
  | .land => zj2 kf st fun x y st => kn (pc + 1) ls (zJ (ar 17 x y) :: st) m
  | .lor => zj2 kf st fun x y st => kn (pc + 1) ls (zJ (ar 18 x y) :: st) m
  | .lxor => zj2 kf st fun x y st => kn (pc + 1) ls (zJ (ar 19 x y) :: st) m
  | .lshl => zji kf st fun x y st => kn (pc + 1) ls (zJ (ar 20 x y) :: st) m
  | .lushr => zji kf st fun x y st => kn (pc + 1) ls (zJ (ar 21 x y) :: st) m
  | .lcmp => zj2 kf st fun x y st => kn (pc + 1) ls (zI (ar 22 x y) :: st) m
  | .i2l => zi1 kf st fun x st => kn (pc + 1) ls (zJ x :: st) m
  | .l2i => zj1 kf st fun x st => kn (pc + 1) ls (zI (ar 23 x 0) :: st) m
  | .i2b => zi1 kf st fun x st => kn (pc + 1) ls (zI (ar 24 x 0) :: st) m
  | .i2s => zi1 kf st fun x st => kn (pc + 1) ls (zI (ar 25 x 0) :: st) m
  | .i2c => zi1 kf st fun x st => kn (pc + 1) ls (zI (ar 26 x 0) :: st) m
  | .dup => match st with
    | .inl x :: st => kn (pc + 1) ls (zI x :: zI x :: st) m
    | .inr (.inr x) :: st => kn (pc + 1) ls (.inr (.inr x) :: .inr (.inr x) :: st) m
    | _ => kf
  | .dup2 => match st with
    | .inl x :: .inr (.inr (.inl q)) :: st => kn (pc + 1) ls (zI x :: .inr (.inr (.inl q)) :: zI x :: .inr (.inr (.inl q)) :: st) m
    | .inr (.inl x) :: st => kn (pc + 1) ls (zJ x :: zJ x :: st) m
    | _ => kf
  | .pop => match st with
    | .inl _ :: st => kn (pc + 1) ls st m
    | .inr (.inr _) :: st => kn (pc + 1) ls st m
    | _ => kf
  | .goto _ => match an with
    | [t] => kn t ls st m
    | _ => kf
  | .ifCond c _ => match an with
    | [t] => zi1 kf st fun x st => zcond c x 0 (kn t ls st m) (kn (pc + 1) ls st m)
    | _ => kf
  | .if_icmp c _ => match an with
    | [t] => zi2 kf st fun x y st => zcond c x y (kn t ls st m) (kn (pc + 1) ls st m)
    | _ => kf
  | .tableswitch _ lo _ _ => match an with
    | d :: ts => zi1 kf st fun x st => zsw x (fun t => kn t ls st m) d lo ts
    | _ => kf
  | .lookupswitch _ _ => match an with
    | d :: ts => zi1 kf st fun x st => zlk x (fun t => kn t ls st m) d az ts
    | _ => kf
  | .getfield _ => match an with
    | [_, c, ty] => match az with
      | [c2, n2, k] => zr1 kf st fun c' _ a st => if c' = c then zgetf ph R rd kf k ty c2 n2 a m (fun v => kn (pc + 1) ls (v :: st) m) else kf
      | _ => kf
    | _ => kf
  | .putfield _ => match an with
    | [_, c, ty] => match az with
      | [c2, n2, k] => zputf ph R wr kf c k ty c2 n2 st m (fun st m => kn (pc + 1) ls st m)
      | _ => kf
    | _ => kf
  | .getstatic _ => match an, az with
    | [_, 0], [c, n, a] => kn (pc + 1) ls (zA c n a :: st) m
    | [_, 1], [v] => kn (pc + 1) ls (zI v :: st) m
    | [_, 2], _ => kn (pc + 1) ls (zU :: st) m
    | _, _ => kf
  | .iaload => zri kf st fun c n a i st => if 0 ≤ i ∧ i < n then if c = 20 then kn (pc + 1) ls (zI (rd m a i) :: st) m else if c = 23 then kn (pc + 1) ls (zI (R a i) :: st) m else kf else kf
  | .baload => zri kf st fun c n a i st => if c = 22 then if 0 ≤ i ∧ i < n then kn (pc + 1) ls (zI (rd m a i) :: st) m else kf else if c = 24 then if 0 ≤ i ∧ i < R a (-1) then kn (pc + 1) ls (zI (R a i) :: st) m else kf else kf
  | .laload => zri kf st fun c n a i st => if 0 ≤ i ∧ i < n then if c = 21 then kn (pc + 1) ls (zJ (rd m a i) :: st) m else kf else kf
  | .aaload => zri kf st fun c n a i st => if 0 ≤ i ∧ i < n then if c = 33 then kn (pc + 1) ls (zA 22 4096 (rd m a i) :: st) m else if 30 ≤ c ∧ c ≤ 34 then match ph with
      | true => kn (pc + 1) ls (zA (zet c).1 (zet c).2 (R a i) :: st) m
      | false => if rd m a i = 1 then kn (pc + 1) ls (zA (zet c).1 (zet c).2 (R a i) :: st) m else kf
    else kf else kf
  | .iastore => zrii kf st fun c n a i x st => if 0 ≤ i ∧ i < n then if c = 20 then kn (pc + 1) ls st (wr m a i x) else kf else kf
  | .bastore => zrii kf st fun c n a i x st => if 0 ≤ i ∧ i < n then if c = 22 then kn (pc + 1) ls st (wr m a i (x % 2)) else kf else kf
  | .lastore => zrij kf st fun c n a i x st => if 0 ≤ i ∧ i < n then if c = 21 then kn (pc + 1) ls st (wr m a i x) else kf else kf
  | .aastore => zrir kf st fun c n a i c2 n2 x st => if 0 ≤ i ∧ i < n then if c = 33 then if c2 = 22 ∧ n2 = 4096 then kn (pc + 1) ls st (wr m a i x) else kf else match ph with
      | true => kf
      | false => if (c = 30 ∨ c = 31 ∨ c = 34) ∧ c2 = (zet c).1 ∧ n2 = (zet c).2 ∧ x = R a i then kn (pc + 1) ls st (wr m a i 1) else kf
    else kf
  | .arraylength => zr1 kf st fun c n a st => if c = 24 then kn (pc + 1) ls (zI (R a (-1)) :: st) m else if 20 ≤ c ∧ c ≤ 34 then kn (pc + 1) ls (zI n :: st) m else kf
  | .new _ => match ph, an with
    | false, [_, c, n] => if K (rd m 0 0) = ((c : Int), (n : Int)) then kn (pc + 1) ls (zA c n (rd m 0 0) :: st) (wr m 0 0 (rd m 0 0 + 1)) else kf
    | _, _ => kf
  | .newarray _ => match ph, an with
    | false, [c] => zi1 kf st fun x st => if K (rd m 0 0) = ((c : Int), x) then kn (pc + 1) ls (zA c x (rd m 0 0) :: st) (wr m 0 0 (rd m 0 0 + 1)) else kf
    | _, _ => kf
  | .anewarray _ => match ph, an with
    | false, [_, c] => zi1 kf st fun x st => if K (rd m 0 0) = ((c : Int), x) then kn (pc + 1) ls (zA c x (rd m 0 0) :: st) (wr m 0 0 (rd m 0 0 + 1)) else kf
    | _, _ => kf
  | .multianewarray _ _ => match ph, an with
    | false, [_, c] => zi2 kf st fun x y st => if K (rd m 0 0) = ((c : Int), x) ∧ (List.range x.toNat).all (fun j => decide (K (rd m 0 0 + 1 + (j : Nat)) = (22, y)) && (c == 33 || decide (R (rd m 0 0) (j : Nat) = rd m 0 0 + 1 + (j : Nat)))) = true then
        kn (pc + 1) ls (zA c x (rd m 0 0) :: st) (wr (zfill wr m (rd m 0 0) (fun j => if c = 33 then rd m 0 0 + 1 + j else 1) x.toNat) 0 0 (rd m 0 0 + 1 + x)) else kf
    | _, _ => kf
  | .invokevirtual _ => match an, az with
    | [e, y, n, k], [c2, n2, c] => zrecv kf c n st (zinvoke kc kf [e, y, n, k] [c2, n2] pc ls st m)
    | _, _ => kf
  | .invokespecial _ => match an, az with
    | [9999], _ => zr1 kf st fun _ _ _ st => if zcats st ≤ 8 then kn (pc + 1) ls st m else kf
    | [e, y, n, 0], [c2, n2, c] => zrecv kf c n st (zinvoke kc kf [e, y, n, 0] [c2, n2] pc ls st m)
    | _, _ => kf
  | .invokestatic _ => match an, az with
    | [9998], _ => match st with
      | .inl n :: .inl dp :: .inr (.inr (.inl (c2, n2, b))) :: .inl sp :: .inr (.inr (.inl (c1, n1, a))) :: st =>
        if c1 = c2 ∧ (c1 = 20 ∨ c1 = 21) ∧ 0 ≤ n ∧ 0 ≤ sp ∧ 0 ≤ dp ∧ sp + n ≤ n1 ∧ dp + n ≤ n2 ∧ zcats st ≤ 8 then match cp m a sp b dp n with
          | some m => kn (pc + 1) ls st m
          | none => kf
        else kf
      | _ => kf
    | [e, y, n, k], [c2, n2] => zinvoke kc kf [e, y, n, k] [c2, n2] pc ls st m
    | _, _ => kf
  | .ireturn => match an with
    | [k] => zi1 kf st fun x st => match st with
      | [] => zretI kr kf k x m
      | _ => kf
    | _ => kf
  | .lreturn => zj1 kf st fun x st => match st with
      | [] => kr x m
      | _ => kf
  | .areturn => match az with
    | [c2, n2] => zr1 kf st fun c n a st => match st with
      | [] => if c = c2 ∧ n = n2 then kr a m else kf
      | _ => kf
    | _ => kf
  | .return_ => match st with
    | [] => kr 0 m
    | _ => kf
  | _ => kf
end
