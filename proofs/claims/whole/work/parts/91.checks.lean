/-! What is checked of the printed code, by program: bytes, lengths, jumps, words -/
def zynOf (y : Nat) : MethodName := (znth zyns y).getD ⟨"", "", ""⟩
noncomputable def zbyOf (y : Nat) : ByteArray := (znth zbys y).getD ByteArray.empty
def zretOf (y : Nat) : Option FieldType := (znth zrets y).getD none
def zwdAt (i : Nat) (w : Jvm.Cond) : Bool := decide (lw_tbl[i]? = some w)
theorem zwd_in {i : Nat} {w : Jvm.Cond} (h : zwdAt i w = true) : w ∈ lw_tbl := List.mem_of_getElem? (of_decide_eq_true h)
/-- class code to class: name, fields, how many -/
def zclOf (c : Nat) : vw_C := (znth zcl (c - 1)).getD (RX2, TX2, 0)
def zlenf (i : Jvm.ClassFile.Instr) : Nat := match i with
  | .bipush _ => 2
  | .sipush _ => 3
  | .ldc _ => 2
  | .ldc_w _ => 3
  | .ldc2_w _ => 3
  | .iload _ => 2
  | .lload _ => 2
  | .aload _ => 2
  | .istore _ => 2
  | .lstore _ => 2
  | .astore _ => 2
  | .iinc _ _ => 3
  | .goto _ => 3
  | .ifCond _ _ => 3
  | .if_icmp _ _ => 3
  | .getfield _ => 3
  | .putfield _ => 3
  | .getstatic _ => 3
  | .invokevirtual _ => 3
  | .invokespecial _ => 3
  | .invokestatic _ => 3
  | .new _ => 3
  | .newarray _ => 2
  | .anewarray _ => 3
  | .multianewarray _ _ => 4
  | _ => 1
def zfalls (i : Jvm.ClassFile.Instr) : Bool := match i with
  | .goto _ => false
  | .ireturn => false
  | .lreturn => false
  | .areturn => false
  | .return_ => false
  | .tableswitch _ _ _ _ => false
  | .lookupswitch _ _ => false
  | .athrow => false
  | _ => true
abbrev zCode : Type := List (Nat × Jvm.ClassFile.Instr × List Nat × List Int)
def zoff (c : zCode) (j : Nat) : Nat := match znth c j with
  | some q => q.1
  | none => 0
def zjmp (c : zCode) (off : Nat) (o : Int) (t : Nat) : Bool := decide ((off : Int) + o = (zoff c t : Int)) && decide (t < c.length)
def zjmps (c : zCode) (off : Nat) : List Int → List Nat → Bool
  | [], [] => true
  | o :: os, t :: ts => zjmp c off o t && zjmps c off os ts
  | _, _ => false
def zsorted : List Int → Bool
  | a :: b :: l => decide (a < b) && zsorted (b :: l)
  | _ => true
def zkindOf (r : Option FieldType) : Nat := match r with
  | none => 0
  | some .int => 1
  | some .long => 2
  | some .boolean => 4
  | some .char => 5
  | some .byte => 6
  | some _ => 3
def ztagOf (r : Option FieldType) : List Int := match r with
  | some (.object n) => if n = "RaysOfShapes$Places" then [6, 1] else if n = "RaysOfShapes$Fraction" then [2, 2] else if n = "java/lang/String" then [40, 0] else []
  | _ => [0, 0]
/-- the code of a class by its name (40: String) -/
def zcodeOf (n : String) : Int := if n = "java/lang/String" then 40 else match zcl.findIdx? (fun q => q.1 == n) with
  | some i => i + 1
  | none => 0
def zentry (own : String) (idx : Nat) (stat : Bool) (an : List Nat) (az : List Int) : Bool := match an with
  | [e, y, n, k] => match znth zmes e with
    | some (own', idx', y', host, wi) => match znth zpls y with
      | some (ci, si, li, ii, np) =>
        decide (own' = own) && decide (idx' = idx) && decide (y' = y) && decide (n = np + (if stat then 0 else 1)) && decide (k = zkindOf (zretOf y)) &&
        (if host = "" then zwdAt wi (.methodLink own idx (zynOf y)) else zwdAt wi (.methodLinkNest own idx (zynOf y) host)) && decide (k = 3 → az.take 2 = ztagOf (zretOf y)) &&
        (if stat then decide (az.length = 2) else decide (az.drop 2 = [zcodeOf (zynOf y).cls]))
      | none => false
    | none => false
  | _ => false
/-- a method's own words -/
noncomputable def zplOK (y : Nat) : Bool := match znth zpls y with
  | some (ci, si, li, ii, np) => zwdAt ci (.code (zynOf y) (zbyOf y) (zml y) (zretOf y)) && zwdAt ii (.initialized (zynOf y).cls) &&
    decide ((parseMethodDescriptor (zynOf y).desc).map (fun d => d.parameters.length) = some np) &&
    (zwdAt si (.static (zynOf y)) || (zwdAt si (.instanceMethod (zynOf y)) && ((zynOf y).name == "<init>" || zwdAt li (.selects (zynOf y).cls (zynOf y) (zynOf y)))))
  | none => false

set_option maxRecDepth 100000 in
theorem zt_pl : (List.range 40).all zplOK = true := by decide +kernel
