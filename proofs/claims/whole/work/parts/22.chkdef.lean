/-! What is checked of every printed instruction, by program -/
abbrev zQ : Type := Nat × Jvm.ClassFile.Instr × List Nat × List Int
def zlenf (i : Jvm.ClassFile.Instr) : Nat := match i with
  | .bipush _ => 2
  | .sipush _ => 3
  | .ldc _ => 2
  | .ldc_w _ => 3
  | .ldc2_w _ => 3
  | .iload _ => 2
  | .lload _ => 2
  | .aload _ => 2
  | .istore _ => 2
  | .lstore _ => 2
  | .astore _ => 2
  | .iinc _ _ => 3
  | .goto _ => 3
  | .ifCond _ _ => 3
  | .if_icmp _ _ => 3
  | .getfield _ => 3
  | .putfield _ => 3
  | .getstatic _ => 3
  | .invokevirtual _ => 3
  | .invokespecial _ => 3
  | .invokestatic _ => 3
  | .new _ => 3
  | .newarray _ => 2
  | .anewarray _ => 3
  | .multianewarray _ _ => 4
  | _ => 1
/-- 0: goes on to the next; 1: doesn't; 2: doesn't, of any length -/
def zfalls (i : Jvm.ClassFile.Instr) : Nat := match i with
  | .goto _ => 1
  | .ireturn => 1
  | .lreturn => 1
  | .areturn => 1
  | .return_ => 1
  | .athrow => 1
  | .tableswitch _ _ _ _ => 2
  | .lookupswitch _ _ => 2
  | _ => 0
def zoff (c : List zQ) (j : Nat) : Nat := match znth c j with
  | some q => q.1
  | none => 0
def zdecOK (b : ByteArray) (q : zQ) : Bool := match decode b q.1 with
  | .ok (i, n) => decide (i = q.2.1) && (zfalls q.2.1 == 2 || n == zlenf q.2.1)
  | .error _ => false
def zjmp (c : List zQ) (off : Nat) (o : Int) (t : Nat) : Bool := decide ((off : Int) + o = (zoff c t : Int)) && decide (t < c.length)
def zjmps (c : List zQ) (off : Nat) : List Int → List Nat → Bool
  | [], [] => true
  | o :: os, t :: ts => zjmp c off o t && zjmps c off os ts
  | _, _ => false
def zsorted : List Int → Bool
  | a :: b :: l => decide (a < b) && zsorted (b :: l)
  | _ => true
def zkindOf (r : Option FieldType) : Nat := match r with
  | none => 0
  | some .int => 1
  | some .long => 2
  | some .boolean => 4
  | some .char => 5
  | some .byte => 6
  | some _ => 3
/-- the tag of what a method answers: by its number -/
def zrtags : List (Nat × Int × Int) := [(1, 6, 1), (34, 40, 0), (37, 6, 1), (42, 2, 2), (95, 2, 2), (96, 2, 2), (198, 6, 1), (199, 2, 2)]
def zrtagOf (y : Nat) : List Int := match zrtags.find? (fun q => q.1 == y) with
  | some q => [q.2.1, q.2.2]
  | none => [0, 0]
noncomputable def zentOK (own idx : Nat) (stat : Bool) (an : List Nat) (az : List Int) : Bool := match an with
  | [e, y, n, k] => match znth zmes e with
    | some (own', idx', y', _) => match znth zmd y with
      | some (_, _, _, ret, st, np, oc) => Nat.beq own' own && Nat.beq idx' idx && Nat.beq y' y && (st == stat) && Nat.beq n (np + (if stat then 0 else 1)) && Nat.beq k (zkindOf ret) && decide (az.take 2 = zrtagOf y) &&
        (if stat then decide (az.length = 2) else decide (az.drop 2 = [if oc = 17 then 40 else (oc : Int)]))
      | none => false
    | none => false
  | _ => false
noncomputable def zaux (c : List zQ) (y own : Nat) (ret : Option FieldType) (ini : Bool) (q : zQ) : Bool := match q with
  | (off, i, an, az) => match i with
    | .iconst n => decide (-1 ≤ n ∧ n ≤ 5)
    | .bipush n => decide (-128 ≤ n ∧ n < 128)
    | .sipush n => decide (-32768 ≤ n ∧ n < 32768)
    | .ldc idx => match an, az with
      | [_, 0], [v] => decide ((own, idx, v) ∈ zcis) && decide (-2147483648 ≤ v ∧ v < 2147483648)
      | [_, 1], [a] => decide ((own, idx, a) ∈ zsis) && decide (-39 ≤ a ∧ a ≤ -10)
      | _, _ => false
    | .ldc_w idx => match an, az with
      | [_, 0], [v] => decide ((own, idx, v) ∈ zcis) && decide (-2147483648 ≤ v ∧ v < 2147483648)
      | _, _ => false
    | .ldc2_w idx => match az with
      | [v] => decide ((own, idx, v) ∈ zlis) && decide (-9223372036854775808 ≤ v ∧ v < 9223372036854775808)
      | _ => false
    | .iinc _ v => decide (-32768 ≤ v ∧ v < 32768)
    | .goto o => match an with
      | [t] => zjmp c off o t
      | _ => false
    | .ifCond _ o => match an with
      | [t] => zjmp c off o t
      | _ => false
    | .if_icmp _ o => match an with
      | [t] => zjmp c off o t
      | _ => false
    | .tableswitch d lo hi offs => match an with
      | dt :: ts => zjmp c off d dt && zjmps c off offs.toList ts && decide (hi = lo + (ts.length : Int) - 1)
      | _ => false
    | .lookupswitch d ps => match an with
      | dt :: ts => zjmp c off d dt && zjmps c off (ps.toList.map (·.2)) ts && decide (az = ps.toList.map (·.1)) && (ps.toList.zip (ps.toList.drop 1)).all (fun (a, next) => a.1 < next.1)
      | _ => false
    | .getfield idx => match an, az with
      | [e, 40, 5], [24, 0, 0] => decide (own = 17 ∧ idx = 9)
      | [e, 40, 4], [_, _, 1] => decide (own = 17 ∧ idx = 15)
      | [e, cc, ty], [c2, n2, k] => match znth zfes e with
        | some (own', idx', c', k') => Nat.beq own' own && Nat.beq idx' idx && Nat.beq c' cc && decide (k = (k' : Int)) && (decide ((cc, k', ty, c2, n2, true) ∈ zfds) || decide ((cc, k', ty, c2, n2, false) ∈ zfds) || (ty == 1 && (decide ((cc, k', 6, c2, n2, false) ∈ zfds))))
        | none => false
      | _, _ => false
    | .putfield idx => match an, az with
      | [e, cc, ty], [c2, n2, k] => match znth zfes e with
        | some (own', idx', c', k') => Nat.beq own' own && Nat.beq idx' idx && Nat.beq c' cc && decide (k = (k' : Int)) && (decide ((cc, k', ty, c2, n2, false) ∈ zfds) || (decide ((cc, k', ty, c2, n2, true) ∈ zfds) && ini && Nat.beq own cc))
        | none => false
      | _, _ => false
    | .getstatic idx => match an, az with
      | [_, 0], [23, 18, -2] => decide (own = 3 ∧ idx = 9)
      | [_, 0], [23, 18, -3] => decide (own = 3 ∧ idx = 15)
      | [_, 1], [1] => decide (own = 17 ∧ idx = 38)
      | [_, 2], [] => decide (own = 17 ∧ idx = 1053)
      | _, _ => false
    | .new idx => match an with
      | [_, cc, n] => decide ((own, idx, cc, n) ∈ zcns2)
      | _ => false
    | .newarray t => match an, t with
      | [20], .int => true
      | [21], .long => true
      | [22], .boolean => true
      | _, _ => false
    | .anewarray idx => match an with
      | [_, cc] => decide ((own, idx, cc) ∈ zans)
      | _ => false
    | .multianewarray idx n => match an with
      | [_, cc] => decide (own = 13 ∧ idx = 23 ∧ n = 2 ∧ (cc = 32 ∨ cc = 33))
      | _ => false
    | .invokevirtual idx => an.isEmpty || zentOK own idx false an az
    | .invokespecial idx => (match an with
      | [9999] => decide ((own, idx) ∈ zobjs) && ini
      | [_, yy, _, 0] => zentOK own idx false an az && (match znth zmd yy with
        | some q => decide (q.1.name.length = 6)
        | none => false)
      | _ => false)
    | .invokestatic idx => (match an with
      | [9998] => decide ((own, idx) ∈ zcpys)
      | [] => true
      | _ => zentOK own idx true an az)
    | .ireturn => match an with
      | [k] => Nat.beq k (zkindOf ret) && decide (k = 1 ∨ k = 4 ∨ k = 5 ∨ k = 6)
      | _ => false
    | .lreturn => zkindOf ret == 2
    | .areturn => (zkindOf ret == 3) && decide (az = zrtagOf y)
    | .return_ => zkindOf ret == 0
    | _ => true
/-- an instruction, at place j -/
noncomputable def zchk (c : List zQ) (b : ByteArray) (y own : Nat) (ret : Option FieldType) (ini : Bool) (j : Nat) (q : zQ) : Bool :=
  zdecOK b q && (zfalls q.2.1 != 0 || decide (zoff c (j + 1) = q.1 + zlenf q.2.1)) && zaux c y own ret ini q
noncomputable def zchks (c : List zQ) (b : ByteArray) (y own : Nat) (ret : Option FieldType) (ini : Bool) : Nat → List zQ → Bool
  | _, [] => true
  | j, q :: l => zchk c b y own ret ini j q && zchks c b y own ret ini (j + 1) l
