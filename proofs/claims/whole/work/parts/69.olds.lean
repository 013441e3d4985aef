/-! What was there at the law's start -/
theorem va_T_congr {ty : FieldType} {t N : Nat} {f g : Nat → Value} {A : Nat → Prop} {U : State} {H : Heap} (h : va_T ty t N f A U H) (e : ∀ j, j < N → f j = g j) : va_T ty t N g A U H := by
  obtain ⟨cell, h1, h2, h3, h4, h5, h6, h7⟩ := h
  exact ⟨cell, h1, h2, h3, h4, h5, fun j hj => by rw [h6 j hj, e j hj], h7⟩
section
variable {args : Array Value} {s : State} {A : Nat → Prop}
theorem zTof {tm : Term} {ty : FieldType} {N : Nat} {V : List Int32} (hN : N < 2 ^ 31) (harr : (Jvm.Cond.arrayOf tm ty).before args s = true) (hlen : (Jvm.Cond.eq (.length tm) (.int (Int32.ofNat N))).before args s = true) (hel : ∀ j : Nat, j < N → (Jvm.Cond.eq (.elem tm (.int (Int32.ofNat j))) (.int (V.getD j 0))).before args s = true) (hA : ∀ a : Nat, a < s.heap.size → ¬ A a) :
    ∃ t : Nat, tm.eval args s none [] s = some (.ref t) ∧ va_T ty t N (fun j => .int (V.getD j 0)) A s s.heap := va_Tof hN harr (va_eqt hlen) (fun j hj => va_eqt (hel j hj)) hA
theorem zSof {tm : Term} {N : Nat} {V : List Int32} (hN : N < 2 ^ 31) (hex : (Jvm.Cond.exactly tm "java/lang/String").before args s = true) (hco : (Jvm.Cond.eq (.field tm "java/lang/String" "coder" "B") (.int 0)).before args s = true)
    (har : (Jvm.Cond.arrayOf (.field tm "java/lang/String" "value" "[B") .byte).before args s = true) (hlen : (Jvm.Cond.eq (.length (.field tm "java/lang/String" "value" "[B")) (.int (Int32.ofNat N))).before args s = true)
    (hel : ∀ j : Nat, j < N → (Jvm.Cond.eq (.elem (.field tm "java/lang/String" "value" "[B") (.int (Int32.ofNat j))) (.int (V.getD j 0))).before args s = true) (hA : ∀ a : Nat, a < s.heap.size → ¬ A a) :
    ∃ a t : Nat, tm.eval args s none [] s = some (.ref a) ∧ va_O "java/lang/String" a A s s.heap ∧ va_OF "java/lang/String" "coder" "B" (.int 0) a A s s.heap ∧ va_OF "java/lang/String" "value" "[B" (.ref t) a A s s.heap ∧ va_T .byte t N (fun j => .int (V.getD j 0)) A s s.heap := by
  obtain ⟨a, c, cA, kA, q1, q2, q3, q4, q5, q6, -⟩ := Cond.exactly_spec (args := args) (first := s) (o := none) (s := s) (idx := []) (t := tm) (cls := "java/lang/String") hex
  obtain ⟨t, ht, hT⟩ := zTof hN har hlen hel hA
  exact ⟨a, t, q1, ⟨cA, q3, q5, by rw [q6]; exact q2, hA a (Array.getElem?_eq_some_iff.mp q3).1⟩, vk_OFof q1 (va_eqt hco) hA, vk_OFof q1 ht hA, hT⟩
theorem zeq_eval {t1 t2 : Term} {v : Value} (h : (Jvm.Cond.eq t1 t2).before args s = true) (h1 : t1.eval args s none [] s = some v) : t2.eval args s none [] s = some v := by
  obtain ⟨y, q1, q2⟩ := Cond.eq_one h
  cases h1.symm.trans q1
  exact q2
abbrev zNar (args : Array Value) (s : State) : Prop := ∀ c ∈ flatC (Jvm.Cond.and given_1 narrow_1), c.before args s = true
set_option maxRecDepth 100000 in
theorem zot_und (hs : zNar args s) (hA : ∀ a : Nat, a < s.heap.size → ¬ A a) : ∃ t : Nat, (Term.static "RaysOfShapes$Kinds" "UNDER" "[I").eval args s none [] s = some (.ref t) ∧ va_T .int t 18 (fun j => .int (([(-1), 0, 0, 1, 1, 1, 2, 2, 6, 6, 6, 6, 7, 7, 7, 7, 7, 16] : List Int32).getD j 0)) A s s.heap :=
  zTof (by decide) (hs _ (List.mem_of_getElem? (i := 5) rfl)) (hs _ (List.mem_of_getElem? (i := 6) rfl)) (fun j hj => match j, hj with
    | 0, _ => hs _ (List.mem_of_getElem? (i := 7) rfl)
    | 1, _ => hs _ (List.mem_of_getElem? (i := 8) rfl)
    | 2, _ => hs _ (List.mem_of_getElem? (i := 9) rfl)
    | 3, _ => hs _ (List.mem_of_getElem? (i := 10) rfl)
    | 4, _ => hs _ (List.mem_of_getElem? (i := 11) rfl)
    | 5, _ => hs _ (List.mem_of_getElem? (i := 12) rfl)
    | 6, _ => hs _ (List.mem_of_getElem? (i := 13) rfl)
    | 7, _ => hs _ (List.mem_of_getElem? (i := 14) rfl)
    | 8, _ => hs _ (List.mem_of_getElem? (i := 15) rfl)
    | 9, _ => hs _ (List.mem_of_getElem? (i := 16) rfl)
    | 10, _ => hs _ (List.mem_of_getElem? (i := 17) rfl)
    | 11, _ => hs _ (List.mem_of_getElem? (i := 18) rfl)
    | 12, _ => hs _ (List.mem_of_getElem? (i := 19) rfl)
    | 13, _ => hs _ (List.mem_of_getElem? (i := 20) rfl)
    | 14, _ => hs _ (List.mem_of_getElem? (i := 21) rfl)
    | 15, _ => hs _ (List.mem_of_getElem? (i := 22) rfl)
    | 16, _ => hs _ (List.mem_of_getElem? (i := 23) rfl)
    | 17, _ => hs _ (List.mem_of_getElem? (i := 24) rfl)
    | n + 18, h => absurd h (by omega)) hA
set_option maxRecDepth 100000 in
theorem zot_num (hs : zNar args s) (hA : ∀ a : Nat, a < s.heap.size → ¬ A a) : ∃ t : Nat, (Term.static "RaysOfShapes$Kinds" "NUMBERS_OF" "[I").eval args s none [] s = some (.ref t) ∧ va_T .int t 18 (fun j => .int (([0, 0, 0, 4, 6, 4, 0, 0, 0, 0, 0, 2, 3, 2, 2, 2, 2, 2] : List Int32).getD j 0)) A s s.heap :=
  zTof (by decide) (hs _ (List.mem_of_getElem? (i := 31) rfl)) (hs _ (List.mem_of_getElem? (i := 32) rfl)) (fun j hj => match j, hj with
    | 0, _ => hs _ (List.mem_of_getElem? (i := 33) rfl)
    | 1, _ => hs _ (List.mem_of_getElem? (i := 34) rfl)
    | 2, _ => hs _ (List.mem_of_getElem? (i := 35) rfl)
    | 3, _ => hs _ (List.mem_of_getElem? (i := 36) rfl)
    | 4, _ => hs _ (List.mem_of_getElem? (i := 37) rfl)
    | 5, _ => hs _ (List.mem_of_getElem? (i := 38) rfl)
    | 6, _ => hs _ (List.mem_of_getElem? (i := 39) rfl)
    | 7, _ => hs _ (List.mem_of_getElem? (i := 40) rfl)
    | 8, _ => hs _ (List.mem_of_getElem? (i := 41) rfl)
    | 9, _ => hs _ (List.mem_of_getElem? (i := 42) rfl)
    | 10, _ => hs _ (List.mem_of_getElem? (i := 43) rfl)
    | 11, _ => hs _ (List.mem_of_getElem? (i := 44) rfl)
    | 12, _ => hs _ (List.mem_of_getElem? (i := 45) rfl)
    | 13, _ => hs _ (List.mem_of_getElem? (i := 46) rfl)
    | 14, _ => hs _ (List.mem_of_getElem? (i := 47) rfl)
    | 15, _ => hs _ (List.mem_of_getElem? (i := 48) rfl)
    | 16, _ => hs _ (List.mem_of_getElem? (i := 49) rfl)
    | 17, _ => hs _ (List.mem_of_getElem? (i := 50) rfl)
    | n + 18, h => absurd h (by omega)) hA
set_option maxRecDepth 100000 in
theorem zos_11 (hs : zNar args s) (hA : ∀ a : Nat, a < s.heap.size → ¬ A a) : ∃ a t : Nat, (Term.string "RaysOfShapes$Kinds" 37).eval args s none [] s = some (.ref a) ∧ va_O "java/lang/String" a A s s.heap ∧ va_OF "java/lang/String" "coder" "B" (.int 0) a A s s.heap ∧ va_OF "java/lang/String" "value" "[B" (.ref t) a A s s.heap ∧ va_T .byte t 4 (fun j => .int (([98, 97, 108, 108] : List Int32).getD j 0)) A s s.heap :=
  zSof (by decide) (hs _ (List.mem_of_getElem? (i := 75) rfl)) (hs _ (List.mem_of_getElem? (i := 76) rfl)) (hs _ (List.mem_of_getElem? (i := 77) rfl)) (hs _ (List.mem_of_getElem? (i := 78) rfl)) (fun j hj => match j, hj with
    | 0, _ => hs _ (List.mem_of_getElem? (i := 79) rfl)
    | 1, _ => hs _ (List.mem_of_getElem? (i := 80) rfl)
    | 2, _ => hs _ (List.mem_of_getElem? (i := 81) rfl)
    | 3, _ => hs _ (List.mem_of_getElem? (i := 82) rfl)
    | n + 4, h => absurd h (by omega)) hA
set_option maxRecDepth 100000 in
theorem zos_13 (hs : zNar args s) (hA : ∀ a : Nat, a < s.heap.size → ¬ A a) : ∃ a t : Nat, (Term.string "RaysOfShapes$Kinds" 39).eval args s none [] s = some (.ref a) ∧ va_O "java/lang/String" a A s s.heap ∧ va_OF "java/lang/String" "coder" "B" (.int 0) a A s s.heap ∧ va_OF "java/lang/String" "value" "[B" (.ref t) a A s s.heap ∧ va_T .byte t 3 (fun j => .int (([98, 111, 120] : List Int32).getD j 0)) A s s.heap :=
  zSof (by decide) (hs _ (List.mem_of_getElem? (i := 83) rfl)) (hs _ (List.mem_of_getElem? (i := 84) rfl)) (hs _ (List.mem_of_getElem? (i := 85) rfl)) (hs _ (List.mem_of_getElem? (i := 86) rfl)) (fun j hj => match j, hj with
    | 0, _ => hs _ (List.mem_of_getElem? (i := 87) rfl)
    | 1, _ => hs _ (List.mem_of_getElem? (i := 88) rfl)
    | 2, _ => hs _ (List.mem_of_getElem? (i := 89) rfl)
    | n + 3, h => absurd h (by omega)) hA
set_option maxRecDepth 100000 in
theorem zos_17 (hs : zNar args s) (hA : ∀ a : Nat, a < s.heap.size → ¬ A a) : ∃ a t : Nat, (Term.string "RaysOfShapes$Kinds" 41).eval args s none [] s = some (.ref a) ∧ va_O "java/lang/String" a A s s.heap ∧ va_OF "java/lang/String" "coder" "B" (.int 0) a A s s.heap ∧ va_OF "java/lang/String" "value" "[B" (.ref t) a A s s.heap ∧ va_T .byte t 4 (fun j => .int (([104, 97, 108, 102] : List Int32).getD j 0)) A s s.heap :=
  zSof (by decide) (hs _ (List.mem_of_getElem? (i := 90) rfl)) (hs _ (List.mem_of_getElem? (i := 91) rfl)) (hs _ (List.mem_of_getElem? (i := 92) rfl)) (hs _ (List.mem_of_getElem? (i := 93) rfl)) (fun j hj => match j, hj with
    | 0, _ => hs _ (List.mem_of_getElem? (i := 94) rfl)
    | 1, _ => hs _ (List.mem_of_getElem? (i := 95) rfl)
    | 2, _ => hs _ (List.mem_of_getElem? (i := 96) rfl)
    | 3, _ => hs _ (List.mem_of_getElem? (i := 97) rfl)
    | n + 4, h => absurd h (by omega)) hA
set_option maxRecDepth 100000 in
theorem zos_23 (hs : zNar args s) (hA : ∀ a : Nat, a < s.heap.size → ¬ A a) : ∃ a t : Nat, (Term.string "RaysOfShapes$Kinds" 43).eval args s none [] s = some (.ref a) ∧ va_O "java/lang/String" a A s s.heap ∧ va_OF "java/lang/String" "coder" "B" (.int 0) a A s s.heap ∧ va_OF "java/lang/String" "value" "[B" (.ref t) a A s s.heap ∧ va_T .byte t 5 (fun j => .int (([117, 110, 105, 111, 110] : List Int32).getD j 0)) A s s.heap :=
  zSof (by decide) (hs _ (List.mem_of_getElem? (i := 98) rfl)) (hs _ (List.mem_of_getElem? (i := 99) rfl)) (hs _ (List.mem_of_getElem? (i := 100) rfl)) (hs _ (List.mem_of_getElem? (i := 101) rfl)) (fun j hj => match j, hj with
    | 0, _ => hs _ (List.mem_of_getElem? (i := 102) rfl)
    | 1, _ => hs _ (List.mem_of_getElem? (i := 103) rfl)
    | 2, _ => hs _ (List.mem_of_getElem? (i := 104) rfl)
    | 3, _ => hs _ (List.mem_of_getElem? (i := 105) rfl)
    | 4, _ => hs _ (List.mem_of_getElem? (i := 106) rfl)
    | n + 5, h => absurd h (by omega)) hA
set_option maxRecDepth 100000 in
theorem zos_14 (hs : zNar args s) (hA : ∀ a : Nat, a < s.heap.size → ¬ A a) : ∃ a t : Nat, (Term.string "RaysOfShapes$Kinds" 45).eval args s none [] s = some (.ref a) ∧ va_O "java/lang/String" a A s s.heap ∧ va_OF "java/lang/String" "coder" "B" (.int 0) a A s s.heap ∧ va_OF "java/lang/String" "value" "[B" (.ref t) a A s s.heap ∧ va_T .byte t 6 (fun j => .int (([99, 111, 109, 109, 111, 110] : List Int32).getD j 0)) A s s.heap :=
  zSof (by decide) (hs _ (List.mem_of_getElem? (i := 107) rfl)) (hs _ (List.mem_of_getElem? (i := 108) rfl)) (hs _ (List.mem_of_getElem? (i := 109) rfl)) (hs _ (List.mem_of_getElem? (i := 110) rfl)) (fun j hj => match j, hj with
    | 0, _ => hs _ (List.mem_of_getElem? (i := 111) rfl)
    | 1, _ => hs _ (List.mem_of_getElem? (i := 112) rfl)
    | 2, _ => hs _ (List.mem_of_getElem? (i := 113) rfl)
    | 3, _ => hs _ (List.mem_of_getElem? (i := 114) rfl)
    | 4, _ => hs _ (List.mem_of_getElem? (i := 115) rfl)
    | 5, _ => hs _ (List.mem_of_getElem? (i := 116) rfl)
    | n + 6, h => absurd h (by omega)) hA
set_option maxRecDepth 100000 in
theorem zos_15 (hs : zNar args s) (hA : ∀ a : Nat, a < s.heap.size → ¬ A a) : ∃ a t : Nat, (Term.string "RaysOfShapes$Kinds" 47).eval args s none [] s = some (.ref a) ∧ va_O "java/lang/String" a A s s.heap ∧ va_OF "java/lang/String" "coder" "B" (.int 0) a A s s.heap ∧ va_OF "java/lang/String" "value" "[B" (.ref t) a A s s.heap ∧ va_T .byte t 3 (fun j => .int (([99, 117, 116] : List Int32).getD j 0)) A s s.heap :=
  zSof (by decide) (hs _ (List.mem_of_getElem? (i := 117) rfl)) (hs _ (List.mem_of_getElem? (i := 118) rfl)) (hs _ (List.mem_of_getElem? (i := 119) rfl)) (hs _ (List.mem_of_getElem? (i := 120) rfl)) (fun j hj => match j, hj with
    | 0, _ => hs _ (List.mem_of_getElem? (i := 121) rfl)
    | 1, _ => hs _ (List.mem_of_getElem? (i := 122) rfl)
    | 2, _ => hs _ (List.mem_of_getElem? (i := 123) rfl)
    | n + 3, h => absurd h (by omega)) hA
set_option maxRecDepth 100000 in
theorem zos_12 (hs : zNar args s) (hA : ∀ a : Nat, a < s.heap.size → ¬ A a) : ∃ a t : Nat, (Term.string "RaysOfShapes$Kinds" 49).eval args s none [] s = some (.ref a) ∧ va_O "java/lang/String" a A s s.heap ∧ va_OF "java/lang/String" "coder" "B" (.int 0) a A s s.heap ∧ va_OF "java/lang/String" "value" "[B" (.ref t) a A s s.heap ∧ va_T .byte t 5 (fun j => .int (([98, 108, 101, 110, 100] : List Int32).getD j 0)) A s s.heap :=
  zSof (by decide) (hs _ (List.mem_of_getElem? (i := 124) rfl)) (hs _ (List.mem_of_getElem? (i := 125) rfl)) (hs _ (List.mem_of_getElem? (i := 126) rfl)) (hs _ (List.mem_of_getElem? (i := 127) rfl)) (fun j hj => match j, hj with
    | 0, _ => hs _ (List.mem_of_getElem? (i := 128) rfl)
    | 1, _ => hs _ (List.mem_of_getElem? (i := 129) rfl)
    | 2, _ => hs _ (List.mem_of_getElem? (i := 130) rfl)
    | 3, _ => hs _ (List.mem_of_getElem? (i := 131) rfl)
    | 4, _ => hs _ (List.mem_of_getElem? (i := 132) rfl)
    | n + 5, h => absurd h (by omega)) hA
set_option maxRecDepth 100000 in
theorem zos_21 (hs : zNar args s) (hA : ∀ a : Nat, a < s.heap.size → ¬ A a) : ∃ a t : Nat, (Term.string "RaysOfShapes$Kinds" 51).eval args s none [] s = some (.ref a) ∧ va_O "java/lang/String" a A s s.heap ∧ va_OF "java/lang/String" "coder" "B" (.int 0) a A s s.heap ∧ va_OF "java/lang/String" "value" "[B" (.ref t) a A s s.heap ∧ va_T .byte t 5 (fun j => .int (([115, 104, 105, 102, 116] : List Int32).getD j 0)) A s s.heap :=
  zSof (by decide) (hs _ (List.mem_of_getElem? (i := 133) rfl)) (hs _ (List.mem_of_getElem? (i := 134) rfl)) (hs _ (List.mem_of_getElem? (i := 135) rfl)) (hs _ (List.mem_of_getElem? (i := 136) rfl)) (fun j hj => match j, hj with
    | 0, _ => hs _ (List.mem_of_getElem? (i := 137) rfl)
    | 1, _ => hs _ (List.mem_of_getElem? (i := 138) rfl)
    | 2, _ => hs _ (List.mem_of_getElem? (i := 139) rfl)
    | 3, _ => hs _ (List.mem_of_getElem? (i := 140) rfl)
    | 4, _ => hs _ (List.mem_of_getElem? (i := 141) rfl)
    | n + 5, h => absurd h (by omega)) hA
set_option maxRecDepth 100000 in
theorem zos_19 (hs : zNar args s) (hA : ∀ a : Nat, a < s.heap.size → ¬ A a) : ∃ a t : Nat, (Term.string "RaysOfShapes$Kinds" 53).eval args s none [] s = some (.ref a) ∧ va_O "java/lang/String" a A s s.heap ∧ va_OF "java/lang/String" "coder" "B" (.int 0) a A s s.heap ∧ va_OF "java/lang/String" "value" "[B" (.ref t) a A s s.heap ∧ va_T .byte t 6 (fun j => .int (([114, 101, 112, 101, 97, 116] : List Int32).getD j 0)) A s s.heap :=
  zSof (by decide) (hs _ (List.mem_of_getElem? (i := 142) rfl)) (hs _ (List.mem_of_getElem? (i := 143) rfl)) (hs _ (List.mem_of_getElem? (i := 144) rfl)) (hs _ (List.mem_of_getElem? (i := 145) rfl)) (fun j hj => match j, hj with
    | 0, _ => hs _ (List.mem_of_getElem? (i := 146) rfl)
    | 1, _ => hs _ (List.mem_of_getElem? (i := 147) rfl)
    | 2, _ => hs _ (List.mem_of_getElem? (i := 148) rfl)
    | 3, _ => hs _ (List.mem_of_getElem? (i := 149) rfl)
    | 4, _ => hs _ (List.mem_of_getElem? (i := 150) rfl)
    | 5, _ => hs _ (List.mem_of_getElem? (i := 151) rfl)
    | n + 6, h => absurd h (by omega)) hA
set_option maxRecDepth 100000 in
theorem zos_18 (hs : zNar args s) (hA : ∀ a : Nat, a < s.heap.size → ¬ A a) : ∃ a t : Nat, (Term.string "RaysOfShapes$Kinds" 55).eval args s none [] s = some (.ref a) ∧ va_O "java/lang/String" a A s s.heap ∧ va_OF "java/lang/String" "coder" "B" (.int 0) a A s s.heap ∧ va_OF "java/lang/String" "value" "[B" (.ref t) a A s s.heap ∧ va_T .byte t 6 (fun j => .int (([109, 105, 114, 114, 111, 114] : List Int32).getD j 0)) A s s.heap :=
  zSof (by decide) (hs _ (List.mem_of_getElem? (i := 152) rfl)) (hs _ (List.mem_of_getElem? (i := 153) rfl)) (hs _ (List.mem_of_getElem? (i := 154) rfl)) (hs _ (List.mem_of_getElem? (i := 155) rfl)) (fun j hj => match j, hj with
    | 0, _ => hs _ (List.mem_of_getElem? (i := 156) rfl)
    | 1, _ => hs _ (List.mem_of_getElem? (i := 157) rfl)
    | 2, _ => hs _ (List.mem_of_getElem? (i := 158) rfl)
    | 3, _ => hs _ (List.mem_of_getElem? (i := 159) rfl)
    | 4, _ => hs _ (List.mem_of_getElem? (i := 160) rfl)
    | 5, _ => hs _ (List.mem_of_getElem? (i := 161) rfl)
    | n + 6, h => absurd h (by omega)) hA
set_option maxRecDepth 100000 in
theorem zos_22 (hs : zNar args s) (hA : ∀ a : Nat, a < s.heap.size → ¬ A a) : ∃ a t : Nat, (Term.string "RaysOfShapes$Kinds" 57).eval args s none [] s = some (.ref a) ∧ va_O "java/lang/String" a A s s.heap ∧ va_OF "java/lang/String" "coder" "B" (.int 0) a A s s.heap ∧ va_OF "java/lang/String" "value" "[B" (.ref t) a A s s.heap ∧ va_T .byte t 4 (fun j => .int (([116, 117, 114, 110] : List Int32).getD j 0)) A s s.heap :=
  zSof (by decide) (hs _ (List.mem_of_getElem? (i := 162) rfl)) (hs _ (List.mem_of_getElem? (i := 163) rfl)) (hs _ (List.mem_of_getElem? (i := 164) rfl)) (hs _ (List.mem_of_getElem? (i := 165) rfl)) (fun j hj => match j, hj with
    | 0, _ => hs _ (List.mem_of_getElem? (i := 166) rfl)
    | 1, _ => hs _ (List.mem_of_getElem? (i := 167) rfl)
    | 2, _ => hs _ (List.mem_of_getElem? (i := 168) rfl)
    | 3, _ => hs _ (List.mem_of_getElem? (i := 169) rfl)
    | n + 4, h => absurd h (by omega)) hA
set_option maxRecDepth 100000 in
theorem zos_16 (hs : zNar args s) (hA : ∀ a : Nat, a < s.heap.size → ¬ A a) : ∃ a t : Nat, (Term.string "RaysOfShapes$Kinds" 59).eval args s none [] s = some (.ref a) ∧ va_O "java/lang/String" a A s s.heap ∧ va_OF "java/lang/String" "coder" "B" (.int 0) a A s s.heap ∧ va_OF "java/lang/String" "value" "[B" (.ref t) a A s s.heap ∧ va_T .byte t 5 (fun j => .int (([103, 114, 111, 119, 110] : List Int32).getD j 0)) A s s.heap :=
  zSof (by decide) (hs _ (List.mem_of_getElem? (i := 170) rfl)) (hs _ (List.mem_of_getElem? (i := 171) rfl)) (hs _ (List.mem_of_getElem? (i := 172) rfl)) (hs _ (List.mem_of_getElem? (i := 173) rfl)) (fun j hj => match j, hj with
    | 0, _ => hs _ (List.mem_of_getElem? (i := 174) rfl)
    | 1, _ => hs _ (List.mem_of_getElem? (i := 175) rfl)
    | 2, _ => hs _ (List.mem_of_getElem? (i := 176) rfl)
    | 3, _ => hs _ (List.mem_of_getElem? (i := 177) rfl)
    | 4, _ => hs _ (List.mem_of_getElem? (i := 178) rfl)
    | n + 5, h => absurd h (by omega)) hA
set_option maxRecDepth 100000 in
theorem zos_20 (hs : zNar args s) (hA : ∀ a : Nat, a < s.heap.size → ¬ A a) : ∃ a t : Nat, (Term.string "RaysOfShapes$Kinds" 61).eval args s none [] s = some (.ref a) ∧ va_O "java/lang/String" a A s s.heap ∧ va_OF "java/lang/String" "coder" "B" (.int 0) a A s s.heap ∧ va_OF "java/lang/String" "value" "[B" (.ref t) a A s s.heap ∧ va_T .byte t 5 (fun j => .int (([115, 104, 101, 108, 108] : List Int32).getD j 0)) A s s.heap :=
  zSof (by decide) (hs _ (List.mem_of_getElem? (i := 179) rfl)) (hs _ (List.mem_of_getElem? (i := 180) rfl)) (hs _ (List.mem_of_getElem? (i := 181) rfl)) (hs _ (List.mem_of_getElem? (i := 182) rfl)) (fun j hj => match j, hj with
    | 0, _ => hs _ (List.mem_of_getElem? (i := 183) rfl)
    | 1, _ => hs _ (List.mem_of_getElem? (i := 184) rfl)
    | 2, _ => hs _ (List.mem_of_getElem? (i := 185) rfl)
    | 3, _ => hs _ (List.mem_of_getElem? (i := 186) rfl)
    | 4, _ => hs _ (List.mem_of_getElem? (i := 187) rfl)
    | n + 5, h => absurd h (by omega)) hA
set_option maxRecDepth 100000 in
theorem zos_10 (hs : zNar args s) (hA : ∀ a : Nat, a < s.heap.size → ¬ A a) : ∃ a t : Nat, (Term.string "RaysOfShapes$Kinds" 63).eval args s none [] s = some (.ref a) ∧ va_O "java/lang/String" a A s s.heap ∧ va_OF "java/lang/String" "coder" "B" (.int 0) a A s s.heap ∧ va_OF "java/lang/String" "value" "[B" (.ref t) a A s s.heap ∧ va_T .byte t 0 (fun j => .int (([] : List Int32).getD j 0)) A s s.heap :=
  zSof (by decide) (hs _ (List.mem_of_getElem? (i := 188) rfl)) (hs _ (List.mem_of_getElem? (i := 189) rfl)) (hs _ (List.mem_of_getElem? (i := 190) rfl)) (hs _ (List.mem_of_getElem? (i := 191) rfl)) (fun j hj => match j, hj with
    | n + 0, h => absurd h (by omega)) hA
set_option maxRecDepth 100000 in
theorem zoe_11 (hs : zNar args s) {v : Value} (h : (Term.string "RaysOfShapes$Kinds" 37).eval args s none [] s = some v) : (Term.string "RaysOfShapesModel" 40).eval args s none [] s = some v := zeq_eval (hs _ (List.mem_of_getElem? (i := 200) rfl)) h
set_option maxRecDepth 100000 in
theorem zoe_13 (hs : zNar args s) {v : Value} (h : (Term.string "RaysOfShapes$Kinds" 39).eval args s none [] s = some v) : (Term.string "RaysOfShapesModel" 42).eval args s none [] s = some v := zeq_eval (hs _ (List.mem_of_getElem? (i := 208) rfl)) h
set_option maxRecDepth 100000 in
theorem zoe_17 (hs : zNar args s) {v : Value} (h : (Term.string "RaysOfShapes$Kinds" 41).eval args s none [] s = some v) : (Term.string "RaysOfShapesModel" 44).eval args s none [] s = some v := zeq_eval (hs _ (List.mem_of_getElem? (i := 217) rfl)) h
set_option maxRecDepth 100000 in
theorem zoe_23 (hs : zNar args s) {v : Value} (h : (Term.string "RaysOfShapes$Kinds" 43).eval args s none [] s = some v) : (Term.string "RaysOfShapesModel" 46).eval args s none [] s = some v := zeq_eval (hs _ (List.mem_of_getElem? (i := 227) rfl)) h
set_option maxRecDepth 100000 in
theorem zoe_14 (hs : zNar args s) {v : Value} (h : (Term.string "RaysOfShapes$Kinds" 45).eval args s none [] s = some v) : (Term.string "RaysOfShapesModel" 48).eval args s none [] s = some v := zeq_eval (hs _ (List.mem_of_getElem? (i := 238) rfl)) h
set_option maxRecDepth 100000 in
theorem zoe_15 (hs : zNar args s) {v : Value} (h : (Term.string "RaysOfShapes$Kinds" 47).eval args s none [] s = some v) : (Term.string "RaysOfShapesModel" 50).eval args s none [] s = some v := zeq_eval (hs _ (List.mem_of_getElem? (i := 246) rfl)) h
set_option maxRecDepth 100000 in
theorem zoe_12 (hs : zNar args s) {v : Value} (h : (Term.string "RaysOfShapes$Kinds" 49).eval args s none [] s = some v) : (Term.string "RaysOfShapesModel" 52).eval args s none [] s = some v := zeq_eval (hs _ (List.mem_of_getElem? (i := 256) rfl)) h
set_option maxRecDepth 100000 in
theorem zoe_21 (hs : zNar args s) {v : Value} (h : (Term.string "RaysOfShapes$Kinds" 51).eval args s none [] s = some v) : (Term.string "RaysOfShapesModel" 54).eval args s none [] s = some v := zeq_eval (hs _ (List.mem_of_getElem? (i := 266) rfl)) h
set_option maxRecDepth 100000 in
theorem zoe_19 (hs : zNar args s) {v : Value} (h : (Term.string "RaysOfShapes$Kinds" 53).eval args s none [] s = some v) : (Term.string "RaysOfShapesModel" 56).eval args s none [] s = some v := zeq_eval (hs _ (List.mem_of_getElem? (i := 277) rfl)) h
set_option maxRecDepth 100000 in
theorem zoe_18 (hs : zNar args s) {v : Value} (h : (Term.string "RaysOfShapes$Kinds" 55).eval args s none [] s = some v) : (Term.string "RaysOfShapesModel" 58).eval args s none [] s = some v := zeq_eval (hs _ (List.mem_of_getElem? (i := 288) rfl)) h
set_option maxRecDepth 100000 in
theorem zoe_22 (hs : zNar args s) {v : Value} (h : (Term.string "RaysOfShapes$Kinds" 57).eval args s none [] s = some v) : (Term.string "RaysOfShapesModel" 60).eval args s none [] s = some v := zeq_eval (hs _ (List.mem_of_getElem? (i := 297) rfl)) h
set_option maxRecDepth 100000 in
theorem zoe_16 (hs : zNar args s) {v : Value} (h : (Term.string "RaysOfShapes$Kinds" 59).eval args s none [] s = some v) : (Term.string "RaysOfShapesModel" 62).eval args s none [] s = some v := zeq_eval (hs _ (List.mem_of_getElem? (i := 307) rfl)) h
set_option maxRecDepth 100000 in
theorem zoe_20 (hs : zNar args s) {v : Value} (h : (Term.string "RaysOfShapes$Kinds" 61).eval args s none [] s = some v) : (Term.string "RaysOfShapesModel" 64).eval args s none [] s = some v := zeq_eval (hs _ (List.mem_of_getElem? (i := 317) rfl)) h
set_option maxRecDepth 100000 in
theorem zoc (hs : zNar args s) : (Jvm.Cond.eq (.static "java/lang/String" "COMPACT_STRINGS" "Z") (.int 1)).before args s = true := hs _ (List.mem_of_getElem? (i := 25) rfl)
set_option maxRecDepth 100000 in
theorem zof (hs : zNar args s) : (Jvm.Cond.isRef (.static "jdk/internal/util/Preconditions" "SIOOBE_FORMATTER" "Ljava/util/function/BiFunction;")).before args s = true := hs _ (List.mem_of_getElem? (i := 26) rfl)
end
