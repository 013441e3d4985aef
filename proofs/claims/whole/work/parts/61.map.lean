/-! Two memories, one the picture of the other: the machine does the same -/
section
variable {α1 α2 M1 M2 : Type} {f : M1 → M2} {F : α1 → α2} {kf1 : α1} {kf2 : α2}
theorem zm_ite (c : Prop) {h : Decidable c} {a1 b1 : α1} {a2 b2 : α2} (ha : F a1 = a2) (hb : F b1 = b2) : F (@ite α1 c h a1 b1) = @ite α2 c h a2 b2 := by
  by_cases q : c
  · rw [if_pos q, if_pos q]; exact ha
  · rw [if_neg q, if_neg q]; exact hb
theorem zm_i1 (hkf : F kf1 = kf2) (st : List zV) {g1 : Int → List zV → α1} {g2 : Int → List zV → α2} (h : ∀ x s, F (g1 x s) = g2 x s) : F (zi1 kf1 st g1) = zi1 kf2 st g2 := by
  rcases st with _ | ⟨(x | x), st⟩
  all_goals first | exact h _  _ | exact hkf
theorem zm_j1 (hkf : F kf1 = kf2) (st : List zV) {g1 : Int → List zV → α1} {g2 : Int → List zV → α2} (h : ∀ x s, F (g1 x s) = g2 x s) : F (zj1 kf1 st g1) = zj1 kf2 st g2 := by
  rcases st with _ | ⟨(x | (x | x)), st⟩
  all_goals first | exact h _  _ | exact hkf
theorem zm_i2 (hkf : F kf1 = kf2) (st : List zV) {g1 : Int → Int → List zV → α1} {g2 : Int → Int → List zV → α2} (h : ∀ x y s, F (g1 x y s) = g2 x y s) : F (zi2 kf1 st g1) = zi2 kf2 st g2 := by
  rcases st with _ | ⟨(x | x), _ | ⟨(y | y), st⟩⟩
  all_goals first | exact h _ _  _ | exact hkf
theorem zm_j2 (hkf : F kf1 = kf2) (st : List zV) {g1 : Int → Int → List zV → α1} {g2 : Int → Int → List zV → α2} (h : ∀ x y s, F (g1 x y s) = g2 x y s) : F (zj2 kf1 st g1) = zj2 kf2 st g2 := by
  rcases st with _ | ⟨(x | (x | x)), _ | ⟨(y | (y | y)), st⟩⟩
  all_goals first | exact h _ _  _ | exact hkf
theorem zm_ji (hkf : F kf1 = kf2) (st : List zV) {g1 : Int → Int → List zV → α1} {g2 : Int → Int → List zV → α2} (h : ∀ x y s, F (g1 x y s) = g2 x y s) : F (zji kf1 st g1) = zji kf2 st g2 := by
  rcases st with _ | ⟨(x | (x | x)), _ | ⟨(y | (y | y)), st⟩⟩
  all_goals first | exact h _ _  _ | exact hkf
theorem zm_r1 (hkf : F kf1 = kf2) (st : List zV) {g1 : Int → Int → Int → List zV → α1} {g2 : Int → Int → Int → List zV → α2} (h : ∀ x y z s, F (g1 x y z s) = g2 x y z s) : F (zr1 kf1 st g1) = zr1 kf2 st g2 := by
  rcases st with _ | ⟨(x | (x | (⟨c, n, a⟩ | x))), st⟩
  all_goals first | exact h _ _ _  _ | exact hkf
theorem zm_ri (hkf : F kf1 = kf2) (st : List zV) {g1 : Int → Int → Int → Int → List zV → α1} {g2 : Int → Int → Int → Int → List zV → α2} (h : ∀ x y z i s, F (g1 x y z i s) = g2 x y z i s) : F (zri kf1 st g1) = zri kf2 st g2 := by
  rcases st with _ | ⟨(i | i), _ | ⟨(x | (x | (⟨c, n, a⟩ | x))), st⟩⟩
  all_goals first | exact h _ _ _ _  _ | exact hkf
theorem zm_rii (hkf : F kf1 = kf2) (st : List zV) {g1 : Int → Int → Int → Int → Int → List zV → α1} {g2 : Int → Int → Int → Int → Int → List zV → α2} (h : ∀ x y z i v s, F (g1 x y z i v s) = g2 x y z i v s) : F (zrii kf1 st g1) = zrii kf2 st g2 := by
  rcases st with _ | ⟨(v | v), _ | ⟨(i | i), _ | ⟨(x | (x | (⟨c, n, a⟩ | x))), st⟩⟩⟩
  all_goals first | exact h _ _ _ _ _  _ | exact hkf
theorem zm_rij (hkf : F kf1 = kf2) (st : List zV) {g1 : Int → Int → Int → Int → Int → List zV → α1} {g2 : Int → Int → Int → Int → Int → List zV → α2} (h : ∀ x y z i v s, F (g1 x y z i v s) = g2 x y z i v s) : F (zrij kf1 st g1) = zrij kf2 st g2 := by
  rcases st with _ | ⟨(v | (v | v)), _ | ⟨(i | i), _ | ⟨(x | (x | (⟨c, n, a⟩ | x))), st⟩⟩⟩
  all_goals first | exact h _ _ _ _ _  _ | exact hkf
theorem zm_rir (hkf : F kf1 = kf2) (st : List zV) {g1 : Int → Int → Int → Int → Int → Int → Int → List zV → α1} {g2 : Int → Int → Int → Int → Int → Int → Int → List zV → α2} (h : ∀ x y z i c n v s, F (g1 x y z i c n v s) = g2 x y z i c n v s) : F (zrir kf1 st g1) = zrir kf2 st g2 := by
  rcases st with _ | ⟨(v | (v | (⟨c2, n2, v⟩ | v))), _ | ⟨(i | i), _ | ⟨(x | (x | (⟨c, n, a⟩ | x))), st⟩⟩⟩
  all_goals first | exact h _ _ _ _ _ _ _  _ | exact hkf
theorem zm_sw {g1 : Nat → α1} {g2 : Nat → α2} (x : Int) (d : Nat) (h : ∀ t, F (g1 t) = g2 t) : ∀ (ts : List Nat) (v : Int), F (zsw x g1 d v ts) = zsw x g2 d v ts
  | [], _ => h d
  | t :: r, v => zm_ite (x = v) (h t) (zm_sw x d h r (v + 1))
theorem zm_lk {g1 : Nat → α1} {g2 : Nat → α2} (x : Int) (d : Nat) (h : ∀ t, F (g1 t) = g2 t) : ∀ (ts : List Nat) (vs : List Int), F (zlk x g1 d vs ts) = zlk x g2 d vs ts
  | _, [] => h d
  | [], _ :: _ => h d
  | t :: r, v :: vs => zm_ite (x = v) (h t) (zm_lk x d h r vs)
theorem zm_cond (c : Jvm.ClassFile.Cond) (x y : Int) {a1 b1 : α1} {a2 b2 : α2} (ha : F a1 = a2) (hb : F b1 = b2) : F (zcond c x y a1 b1) = zcond c x y a2 b2 := by
  cases c <;> first | exact zm_ite _ ha hb | exact zm_ite _ hb ha
variable {ph : Bool} {R : Int → Int → Int} {rd2 : M2 → Int → Int → Int} {wr1 : M1 → Int → Int → Int → M1} {wr2 : M2 → Int → Int → Int → M2}
theorem zm_retI {kr1 : Int → M1 → α1} {kr2 : Int → M2 → α2} (hkf : F kf1 = kf2) (hkr : ∀ x m m', f m = m' → F (kr1 x m) = kr2 x m') (k : Nat) (x : Int) (m : M1) : F (zretI kr1 kf1 k x m) = zretI kr2 kf2 k x (f m) := by
  rcases k with _ | _ | _ | _ | _ | _ | k <;> first | exact hkr _ _ _ rfl | exact zm_ite _ (hkr _ _ _ rfl) hkf
theorem zm_getf {g1 : zV → α1} {g2 : zV → α2} (hkf : F kf1 = kf2) (k : Int) (ty : Nat) (c2 n2 a : Int) (m : M1) (hg : ∀ v, F (g1 v) = g2 v) : F (zgetf ph R (fun m => rd2 (f m)) kf1 k ty c2 n2 a m g1) = zgetf ph R rd2 kf2 k ty c2 n2 a (f m) g2 := by
  rcases ty with _ | _ | _ | _ | _ | ty <;> cases ph <;> first | exact hg _ | exact zm_ite _ (hg _) hkf
theorem zm_putf {g1 : List zV → M1 → α1} {g2 : List zV → M2 → α2} (hkf : F kf1 = kf2) (hwr : ∀ m a k v, f (wr1 m a k v) = wr2 (f m) a k v) (c : Nat) (k : Int) (ty : Nat) (c2 n2 : Int) (m : M1) {st : List zV} (hg : ∀ st m m', f m = m' → F (g1 st m) = g2 st m') : F (zputf ph R wr1 kf1 c k ty c2 n2 st m g1) = zputf ph R wr2 kf2 c k ty c2 n2 st (f m) g2 := by
  rcases ty with _ | _ | _ | _ | _ | _ | _ | ty <;> rcases st with _ | ⟨(v | (v | (⟨c3, n3, v⟩ | v))), _ | ⟨(x | (x | (⟨x, y, z⟩ | x))), s⟩⟩ <;> cases ph <;> first | exact hkf | exact zm_ite _ (hg _ _ _ (hwr _ _ _ _)) hkf
theorem zm_invoke {kc1 : zKC M1 α1} {kc2 : zKC M2 α2} (hkf : F kf1 = kf2) (hkc : ∀ y as m k c2 n2 pc ls st m', f m = m' → F (kc1 y as m k c2 n2 pc ls st) = kc2 y as m' k c2 n2 pc ls st) (an : List Nat) (az : List Int) (pc : Nat) (ls : List zV) {st : List zV} (m : M1) : F (zinvoke kc1 kf1 an az pc ls st m) = zinvoke kc2 kf2 an az pc ls st (f m) := by
  unfold zinvoke
  rcases an with _ | ⟨a1, _ | ⟨a2, _ | ⟨a3, _ | ⟨a4, _ | ⟨a5, an⟩⟩⟩⟩⟩ <;> rcases az with _ | ⟨b1, _ | ⟨b2, _ | ⟨b3, az⟩⟩⟩ <;> dsimp only <;> first | exact hkf | exact zm_ite _ (hkc _ _ _ _ _ _ _ _ _ _ rfl) hkf
theorem zm_recv (hkf : F kf1 = kf2) (c : Int) (n : Nat) {st : List zV} {a1 : α1} {a2 : α2} (h : F a1 = a2) : F (zrecv kf1 c n st a1) = zrecv kf2 c n st a2 := by
  unfold zrecv
  generalize znth st (n - 1) = o
  rcases o with _ | (x | (x | (⟨c', n', a⟩ | x))) <;> first | exact hkf | exact zm_ite _ h hkf
theorem zm_fill (hwr : ∀ m a k v, f (wr1 m a k v) = wr2 (f m) a k v) (m : M1) (a : Int) (g : Int → Int) : ∀ n : Nat, f (zfill wr1 m a g n) = zfill wr2 (f m) a g n
  | 0 => rfl
  | n + 1 => by
    rw [zfill, zfill, hwr, zm_fill hwr m a g n]
variable {ar : Nat → Int → Int → Int} {K : Int → Int × Int} {cp1 : M1 → Int → Int → Int → Int → Int → Option M1} {cp2 : M2 → Int → Int → Int → Int → Int → Option M2} {kn1 : zKN M1 α1} {kn2 : zKN M2 α2} {kc1 : zKC M1 α1} {kc2 : zKC M2 α2} {kr1 : Int → M1 → α1} {kr2 : Int → M2 → α2}
set_option maxHeartbeats 4000000 in
theorem zm_step (hkn : ∀ pc ls st m m', f m = m' → F (kn1 pc ls st m) = kn2 pc ls st m') (hkc : ∀ y as m k c2 n2 pc ls st m', f m = m' → F (kc1 y as m k c2 n2 pc ls st) = kc2 y as m' k c2 n2 pc ls st) (hkr : ∀ x m m', f m = m' → F (kr1 x m) = kr2 x m') (hkf : F kf1 = kf2)
    (hwr : ∀ m a k v, f (wr1 m a k v) = wr2 (f m) a k v) (hcp : ∀ m a sp b dp n, (cp1 m a sp b dp n).map f = cp2 (f m) a sp b dp n) (pc : Nat) (ls st : List zV) (m : M1) (i : Jvm.ClassFile.Instr) (an : List Nat) (az : List Int) :
    F (zstp ar ph K R (fun m => rd2 (f m)) wr1 cp1 kn1 kc1 kr1 kf1 pc ls st m i an az) = zstp ar ph K R rd2 wr2 cp2 kn2 kc2 kr2 kf2 pc ls st (f m) i an az := by
  cases i
  case iconst n => exact (by first | exact hkn _ _ _ _ _ rfl | exact hkn _ _ _ _ _ (hwr _ _ _ _) | exact hkn _ _ _ _ _ ((hwr _ _ _ _).trans (congrArg (fun z => wr2 z _ _ _) (zm_fill hwr _ _ _ _))))
  case bipush n => exact (by first | exact hkn _ _ _ _ _ rfl | exact hkn _ _ _ _ _ (hwr _ _ _ _) | exact hkn _ _ _ _ _ ((hwr _ _ _ _).trans (congrArg (fun z => wr2 z _ _ _) (zm_fill hwr _ _ _ _))))
  case sipush n => exact (by first | exact hkn _ _ _ _ _ rfl | exact hkn _ _ _ _ _ (hwr _ _ _ _) | exact hkn _ _ _ _ _ ((hwr _ _ _ _).trans (congrArg (fun z => wr2 z _ _ _) (zm_fill hwr _ _ _ _))))
  case lconst n =>
    dsimp only [zstp]
    split <;> exact (by first | exact hkn _ _ _ _ _ rfl | exact hkn _ _ _ _ _ (hwr _ _ _ _) | exact hkn _ _ _ _ _ ((hwr _ _ _ _).trans (congrArg (fun z => wr2 z _ _ _) (zm_fill hwr _ _ _ _))))
  case iload n =>
    dsimp only [zstp]
    generalize znth ls n = o
    rcases o with _ | (x | (x | (q | x))) <;> dsimp only <;> first | exact (by first | exact hkn _ _ _ _ _ rfl | exact hkn _ _ _ _ _ (hwr _ _ _ _) | exact hkn _ _ _ _ _ ((hwr _ _ _ _).trans (congrArg (fun z => wr2 z _ _ _) (zm_fill hwr _ _ _ _)))) | exact hkf
  case iload_n n =>
    dsimp only [zstp]
    generalize znth ls n.val = o
    rcases o with _ | (x | (x | (q | x))) <;> dsimp only <;> first | exact (by first | exact hkn _ _ _ _ _ rfl | exact hkn _ _ _ _ _ (hwr _ _ _ _) | exact hkn _ _ _ _ _ ((hwr _ _ _ _).trans (congrArg (fun z => wr2 z _ _ _) (zm_fill hwr _ _ _ _)))) | exact hkf
  case lload n =>
    dsimp only [zstp]
    generalize znth ls n = o
    rcases o with _ | (x | (x | (q | x))) <;> dsimp only <;> first | exact (by first | exact hkn _ _ _ _ _ rfl | exact hkn _ _ _ _ _ (hwr _ _ _ _) | exact hkn _ _ _ _ _ ((hwr _ _ _ _).trans (congrArg (fun z => wr2 z _ _ _) (zm_fill hwr _ _ _ _)))) | exact hkf
  case lload_n n =>
    dsimp only [zstp]
    generalize znth ls n.val = o
    rcases o with _ | (x | (x | (q | x))) <;> dsimp only <;> first | exact (by first | exact hkn _ _ _ _ _ rfl | exact hkn _ _ _ _ _ (hwr _ _ _ _) | exact hkn _ _ _ _ _ ((hwr _ _ _ _).trans (congrArg (fun z => wr2 z _ _ _) (zm_fill hwr _ _ _ _)))) | exact hkf
  case aload n =>
    dsimp only [zstp]
    generalize znth ls n = o
    rcases o with _ | (x | (x | (q | x))) <;> dsimp only <;> first | exact (by first | exact hkn _ _ _ _ _ rfl | exact hkn _ _ _ _ _ (hwr _ _ _ _) | exact hkn _ _ _ _ _ ((hwr _ _ _ _).trans (congrArg (fun z => wr2 z _ _ _) (zm_fill hwr _ _ _ _)))) | exact hkf
  case aload_n n =>
    dsimp only [zstp]
    generalize znth ls n.val = o
    rcases o with _ | (x | (x | (q | x))) <;> dsimp only <;> first | exact (by first | exact hkn _ _ _ _ _ rfl | exact hkn _ _ _ _ _ (hwr _ _ _ _) | exact hkn _ _ _ _ _ ((hwr _ _ _ _).trans (congrArg (fun z => wr2 z _ _ _) (zm_fill hwr _ _ _ _)))) | exact hkf
  case iinc n v =>
    dsimp only [zstp]
    generalize znth ls n = o
    rcases o with _ | (x | (x | (q | x))) <;> dsimp only <;> first | exact (by first | exact hkn _ _ _ _ _ rfl | exact hkn _ _ _ _ _ (hwr _ _ _ _) | exact hkn _ _ _ _ _ ((hwr _ _ _ _).trans (congrArg (fun z => wr2 z _ _ _) (zm_fill hwr _ _ _ _)))) | exact hkf
  case istore n => exact zm_i1 hkf _ fun x s => zm_ite _ ((by first | exact hkn _ _ _ _ _ rfl | exact hkn _ _ _ _ _ (hwr _ _ _ _) | exact hkn _ _ _ _ _ ((hwr _ _ _ _).trans (congrArg (fun z => wr2 z _ _ _) (zm_fill hwr _ _ _ _))))) hkf
  case istore_n n => exact zm_i1 hkf _ fun x s => zm_ite _ ((by first | exact hkn _ _ _ _ _ rfl | exact hkn _ _ _ _ _ (hwr _ _ _ _) | exact hkn _ _ _ _ _ ((hwr _ _ _ _).trans (congrArg (fun z => wr2 z _ _ _) (zm_fill hwr _ _ _ _))))) hkf
  case lstore n => exact zm_j1 hkf _ fun x s => zm_ite _ ((by first | exact hkn _ _ _ _ _ rfl | exact hkn _ _ _ _ _ (hwr _ _ _ _) | exact hkn _ _ _ _ _ ((hwr _ _ _ _).trans (congrArg (fun z => wr2 z _ _ _) (zm_fill hwr _ _ _ _))))) hkf
  case lstore_n n => exact zm_j1 hkf _ fun x s => zm_ite _ ((by first | exact hkn _ _ _ _ _ rfl | exact hkn _ _ _ _ _ (hwr _ _ _ _) | exact hkn _ _ _ _ _ ((hwr _ _ _ _).trans (congrArg (fun z => wr2 z _ _ _) (zm_fill hwr _ _ _ _))))) hkf
  case astore n => exact zm_r1 hkf _ fun x y z s => zm_ite _ ((by first | exact hkn _ _ _ _ _ rfl | exact hkn _ _ _ _ _ (hwr _ _ _ _) | exact hkn _ _ _ _ _ ((hwr _ _ _ _).trans (congrArg (fun z => wr2 z _ _ _) (zm_fill hwr _ _ _ _))))) hkf
  case astore_n n => exact zm_r1 hkf _ fun x y z s => zm_ite _ ((by first | exact hkn _ _ _ _ _ rfl | exact hkn _ _ _ _ _ (hwr _ _ _ _) | exact hkn _ _ _ _ _ ((hwr _ _ _ _).trans (congrArg (fun z => wr2 z _ _ _) (zm_fill hwr _ _ _ _))))) hkf
  case iadd => exact zm_i2 hkf _ fun x y s => (by first | exact hkn _ _ _ _ _ rfl | exact hkn _ _ _ _ _ (hwr _ _ _ _) | exact hkn _ _ _ _ _ ((hwr _ _ _ _).trans (congrArg (fun z => wr2 z _ _ _) (zm_fill hwr _ _ _ _))))
  case isub => exact zm_i2 hkf _ fun x y s => (by first | exact hkn _ _ _ _ _ rfl | exact hkn _ _ _ _ _ (hwr _ _ _ _) | exact hkn _ _ _ _ _ ((hwr _ _ _ _).trans (congrArg (fun z => wr2 z _ _ _) (zm_fill hwr _ _ _ _))))
  case imul => exact zm_i2 hkf _ fun x y s => (by first | exact hkn _ _ _ _ _ rfl | exact hkn _ _ _ _ _ (hwr _ _ _ _) | exact hkn _ _ _ _ _ ((hwr _ _ _ _).trans (congrArg (fun z => wr2 z _ _ _) (zm_fill hwr _ _ _ _))))
  case iand => exact zm_i2 hkf _ fun x y s => (by first | exact hkn _ _ _ _ _ rfl | exact hkn _ _ _ _ _ (hwr _ _ _ _) | exact hkn _ _ _ _ _ ((hwr _ _ _ _).trans (congrArg (fun z => wr2 z _ _ _) (zm_fill hwr _ _ _ _))))
  case ior => exact zm_i2 hkf _ fun x y s => (by first | exact hkn _ _ _ _ _ rfl | exact hkn _ _ _ _ _ (hwr _ _ _ _) | exact hkn _ _ _ _ _ ((hwr _ _ _ _).trans (congrArg (fun z => wr2 z _ _ _) (zm_fill hwr _ _ _ _))))
  case ixor => exact zm_i2 hkf _ fun x y s => (by first | exact hkn _ _ _ _ _ rfl | exact hkn _ _ _ _ _ (hwr _ _ _ _) | exact hkn _ _ _ _ _ ((hwr _ _ _ _).trans (congrArg (fun z => wr2 z _ _ _) (zm_fill hwr _ _ _ _))))
  case ishl => exact zm_i2 hkf _ fun x y s => (by first | exact hkn _ _ _ _ _ rfl | exact hkn _ _ _ _ _ (hwr _ _ _ _) | exact hkn _ _ _ _ _ ((hwr _ _ _ _).trans (congrArg (fun z => wr2 z _ _ _) (zm_fill hwr _ _ _ _))))
  case ishr => exact zm_i2 hkf _ fun x y s => (by first | exact hkn _ _ _ _ _ rfl | exact hkn _ _ _ _ _ (hwr _ _ _ _) | exact hkn _ _ _ _ _ ((hwr _ _ _ _).trans (congrArg (fun z => wr2 z _ _ _) (zm_fill hwr _ _ _ _))))
  case iushr => exact zm_i2 hkf _ fun x y s => (by first | exact hkn _ _ _ _ _ rfl | exact hkn _ _ _ _ _ (hwr _ _ _ _) | exact hkn _ _ _ _ _ ((hwr _ _ _ _).trans (congrArg (fun z => wr2 z _ _ _) (zm_fill hwr _ _ _ _))))
  case idiv => exact zm_i2 hkf _ fun x y s => zm_ite _ hkf ((by first | exact hkn _ _ _ _ _ rfl | exact hkn _ _ _ _ _ (hwr _ _ _ _) | exact hkn _ _ _ _ _ ((hwr _ _ _ _).trans (congrArg (fun z => wr2 z _ _ _) (zm_fill hwr _ _ _ _)))))
  case irem => exact zm_i2 hkf _ fun x y s => zm_ite _ hkf ((by first | exact hkn _ _ _ _ _ rfl | exact hkn _ _ _ _ _ (hwr _ _ _ _) | exact hkn _ _ _ _ _ ((hwr _ _ _ _).trans (congrArg (fun z => wr2 z _ _ _) (zm_fill hwr _ _ _ _)))))
  case ladd => exact zm_j2 hkf _ fun x y s => (by first | exact hkn _ _ _ _ _ rfl | exact hkn _ _ _ _ _ (hwr _ _ _ _) | exact hkn _ _ _ _ _ ((hwr _ _ _ _).trans (congrArg (fun z => wr2 z _ _ _) (zm_fill hwr _ _ _ _))))
  case lsub => exact zm_j2 hkf _ fun x y s => (by first | exact hkn _ _ _ _ _ rfl | exact hkn _ _ _ _ _ (hwr _ _ _ _) | exact hkn _ _ _ _ _ ((hwr _ _ _ _).trans (congrArg (fun z => wr2 z _ _ _) (zm_fill hwr _ _ _ _))))
  case lmul => exact zm_j2 hkf _ fun x y s => (by first | exact hkn _ _ _ _ _ rfl | exact hkn _ _ _ _ _ (hwr _ _ _ _) | exact hkn _ _ _ _ _ ((hwr _ _ _ _).trans (congrArg (fun z => wr2 z _ _ _) (zm_fill hwr _ _ _ _))))
  case land => exact zm_j2 hkf _ fun x y s => (by first | exact hkn _ _ _ _ _ rfl | exact hkn _ _ _ _ _ (hwr _ _ _ _) | exact hkn _ _ _ _ _ ((hwr _ _ _ _).trans (congrArg (fun z => wr2 z _ _ _) (zm_fill hwr _ _ _ _))))
  case lor => exact zm_j2 hkf _ fun x y s => (by first | exact hkn _ _ _ _ _ rfl | exact hkn _ _ _ _ _ (hwr _ _ _ _) | exact hkn _ _ _ _ _ ((hwr _ _ _ _).trans (congrArg (fun z => wr2 z _ _ _) (zm_fill hwr _ _ _ _))))
  case lxor => exact zm_j2 hkf _ fun x y s => (by first | exact hkn _ _ _ _ _ rfl | exact hkn _ _ _ _ _ (hwr _ _ _ _) | exact hkn _ _ _ _ _ ((hwr _ _ _ _).trans (congrArg (fun z => wr2 z _ _ _) (zm_fill hwr _ _ _ _))))
  case lcmp => exact zm_j2 hkf _ fun x y s => (by first | exact hkn _ _ _ _ _ rfl | exact hkn _ _ _ _ _ (hwr _ _ _ _) | exact hkn _ _ _ _ _ ((hwr _ _ _ _).trans (congrArg (fun z => wr2 z _ _ _) (zm_fill hwr _ _ _ _))))
  case ldiv => exact zm_j2 hkf _ fun x y s => zm_ite _ hkf ((by first | exact hkn _ _ _ _ _ rfl | exact hkn _ _ _ _ _ (hwr _ _ _ _) | exact hkn _ _ _ _ _ ((hwr _ _ _ _).trans (congrArg (fun z => wr2 z _ _ _) (zm_fill hwr _ _ _ _)))))
  case lrem => exact zm_j2 hkf _ fun x y s => zm_ite _ hkf ((by first | exact hkn _ _ _ _ _ rfl | exact hkn _ _ _ _ _ (hwr _ _ _ _) | exact hkn _ _ _ _ _ ((hwr _ _ _ _).trans (congrArg (fun z => wr2 z _ _ _) (zm_fill hwr _ _ _ _)))))
  case ineg => exact zm_i1 hkf _ fun x s => (by first | exact hkn _ _ _ _ _ rfl | exact hkn _ _ _ _ _ (hwr _ _ _ _) | exact hkn _ _ _ _ _ ((hwr _ _ _ _).trans (congrArg (fun z => wr2 z _ _ _) (zm_fill hwr _ _ _ _))))
  case i2l => exact zm_i1 hkf _ fun x s => (by first | exact hkn _ _ _ _ _ rfl | exact hkn _ _ _ _ _ (hwr _ _ _ _) | exact hkn _ _ _ _ _ ((hwr _ _ _ _).trans (congrArg (fun z => wr2 z _ _ _) (zm_fill hwr _ _ _ _))))
  case i2b => exact zm_i1 hkf _ fun x s => (by first | exact hkn _ _ _ _ _ rfl | exact hkn _ _ _ _ _ (hwr _ _ _ _) | exact hkn _ _ _ _ _ ((hwr _ _ _ _).trans (congrArg (fun z => wr2 z _ _ _) (zm_fill hwr _ _ _ _))))
  case i2s => exact zm_i1 hkf _ fun x s => (by first | exact hkn _ _ _ _ _ rfl | exact hkn _ _ _ _ _ (hwr _ _ _ _) | exact hkn _ _ _ _ _ ((hwr _ _ _ _).trans (congrArg (fun z => wr2 z _ _ _) (zm_fill hwr _ _ _ _))))
  case i2c => exact zm_i1 hkf _ fun x s => (by first | exact hkn _ _ _ _ _ rfl | exact hkn _ _ _ _ _ (hwr _ _ _ _) | exact hkn _ _ _ _ _ ((hwr _ _ _ _).trans (congrArg (fun z => wr2 z _ _ _) (zm_fill hwr _ _ _ _))))
  case lneg => exact zm_j1 hkf _ fun x s => (by first | exact hkn _ _ _ _ _ rfl | exact hkn _ _ _ _ _ (hwr _ _ _ _) | exact hkn _ _ _ _ _ ((hwr _ _ _ _).trans (congrArg (fun z => wr2 z _ _ _) (zm_fill hwr _ _ _ _))))
  case l2i => exact zm_j1 hkf _ fun x s => (by first | exact hkn _ _ _ _ _ rfl | exact hkn _ _ _ _ _ (hwr _ _ _ _) | exact hkn _ _ _ _ _ ((hwr _ _ _ _).trans (congrArg (fun z => wr2 z _ _ _) (zm_fill hwr _ _ _ _))))
  case lshl => exact zm_ji hkf _ fun x y s => (by first | exact hkn _ _ _ _ _ rfl | exact hkn _ _ _ _ _ (hwr _ _ _ _) | exact hkn _ _ _ _ _ ((hwr _ _ _ _).trans (congrArg (fun z => wr2 z _ _ _) (zm_fill hwr _ _ _ _))))
  case lushr => exact zm_ji hkf _ fun x y s => (by first | exact hkn _ _ _ _ _ rfl | exact hkn _ _ _ _ _ (hwr _ _ _ _) | exact hkn _ _ _ _ _ ((hwr _ _ _ _).trans (congrArg (fun z => wr2 z _ _ _) (zm_fill hwr _ _ _ _))))
  case dup => rcases st with _ | ⟨(x | (x | x)), s⟩ <;> first | exact (by first | exact hkn _ _ _ _ _ rfl | exact hkn _ _ _ _ _ (hwr _ _ _ _) | exact hkn _ _ _ _ _ ((hwr _ _ _ _).trans (congrArg (fun z => wr2 z _ _ _) (zm_fill hwr _ _ _ _)))) | exact hkf
  case pop => rcases st with _ | ⟨(x | (x | x)), s⟩ <;> first | exact (by first | exact hkn _ _ _ _ _ rfl | exact hkn _ _ _ _ _ (hwr _ _ _ _) | exact hkn _ _ _ _ _ ((hwr _ _ _ _).trans (congrArg (fun z => wr2 z _ _ _) (zm_fill hwr _ _ _ _)))) | exact hkf
  case dup2 => rcases st with _ | ⟨(x | (x | x)), _ | ⟨(y | (y | (q | y))), s⟩⟩ <;> first | exact (by first | exact hkn _ _ _ _ _ rfl | exact hkn _ _ _ _ _ (hwr _ _ _ _) | exact hkn _ _ _ _ _ ((hwr _ _ _ _).trans (congrArg (fun z => wr2 z _ _ _) (zm_fill hwr _ _ _ _)))) | exact hkf
  case goto o => rcases an with _ | ⟨a1, _ | ⟨a2, an⟩⟩ <;> first | exact (by first | exact hkn _ _ _ _ _ rfl | exact hkn _ _ _ _ _ (hwr _ _ _ _) | exact hkn _ _ _ _ _ ((hwr _ _ _ _).trans (congrArg (fun z => wr2 z _ _ _) (zm_fill hwr _ _ _ _)))) | exact hkf
  case ifCond c o => rcases an with _ | ⟨a1, _ | ⟨a2, an⟩⟩ <;> first | exact hkf | exact zm_i1 hkf _ fun x s => zm_cond c x 0 ((by first | exact hkn _ _ _ _ _ rfl | exact hkn _ _ _ _ _ (hwr _ _ _ _) | exact hkn _ _ _ _ _ ((hwr _ _ _ _).trans (congrArg (fun z => wr2 z _ _ _) (zm_fill hwr _ _ _ _))))) ((by first | exact hkn _ _ _ _ _ rfl | exact hkn _ _ _ _ _ (hwr _ _ _ _) | exact hkn _ _ _ _ _ ((hwr _ _ _ _).trans (congrArg (fun z => wr2 z _ _ _) (zm_fill hwr _ _ _ _)))))
  case if_icmp c o => rcases an with _ | ⟨a1, _ | ⟨a2, an⟩⟩ <;> first | exact hkf | exact zm_i2 hkf _ fun x y s => zm_cond c x y ((by first | exact hkn _ _ _ _ _ rfl | exact hkn _ _ _ _ _ (hwr _ _ _ _) | exact hkn _ _ _ _ _ ((hwr _ _ _ _).trans (congrArg (fun z => wr2 z _ _ _) (zm_fill hwr _ _ _ _))))) ((by first | exact hkn _ _ _ _ _ rfl | exact hkn _ _ _ _ _ (hwr _ _ _ _) | exact hkn _ _ _ _ _ ((hwr _ _ _ _).trans (congrArg (fun z => wr2 z _ _ _) (zm_fill hwr _ _ _ _)))))
  case tableswitch a lo b c => rcases an with _ | ⟨a1, an⟩ <;> first | exact hkf | exact zm_i1 hkf _ fun x s => zm_sw x a1 (fun t => (by first | exact hkn _ _ _ _ _ rfl | exact hkn _ _ _ _ _ (hwr _ _ _ _) | exact hkn _ _ _ _ _ ((hwr _ _ _ _).trans (congrArg (fun z => wr2 z _ _ _) (zm_fill hwr _ _ _ _))))) an lo
  case lookupswitch a b => rcases an with _ | ⟨a1, an⟩ <;> first | exact hkf | exact zm_i1 hkf _ fun x s => zm_lk x a1 (fun t => (by first | exact hkn _ _ _ _ _ rfl | exact hkn _ _ _ _ _ (hwr _ _ _ _) | exact hkn _ _ _ _ _ ((hwr _ _ _ _).trans (congrArg (fun z => wr2 z _ _ _) (zm_fill hwr _ _ _ _))))) an az
  case getfield o => rcases an with _ | ⟨a1, _ | ⟨a2, _ | ⟨a3, _ | ⟨a4, an⟩⟩⟩⟩ <;> first | exact hkf | (rcases az with _ | ⟨b1, _ | ⟨b2, _ | ⟨b3, _ | ⟨b4, az⟩⟩⟩⟩ <;> first | exact hkf | exact zm_r1 hkf _ fun x y z s => zm_ite _ (zm_getf hkf _ _ _ _ _ _ (fun v => (by first | exact hkn _ _ _ _ _ rfl | exact hkn _ _ _ _ _ (hwr _ _ _ _) | exact hkn _ _ _ _ _ ((hwr _ _ _ _).trans (congrArg (fun z => wr2 z _ _ _) (zm_fill hwr _ _ _ _)))))) hkf)
  case putfield o => rcases an with _ | ⟨a1, _ | ⟨a2, _ | ⟨a3, _ | ⟨a4, an⟩⟩⟩⟩ <;> first | exact hkf | (rcases az with _ | ⟨b1, _ | ⟨b2, _ | ⟨b3, _ | ⟨b4, az⟩⟩⟩⟩ <;> first | exact hkf | exact zm_putf hkf hwr _ _ _ _ _ _ (fun _ _ _ q => hkn _ _ _ _ _ q))
  case getstatic o => rcases an with _ | ⟨a1, _ | ⟨(_ | _ | _ | a2), _ | ⟨a3, an⟩⟩⟩ <;> rcases az with _ | ⟨b1, _ | ⟨b2, _ | ⟨b3, _ | ⟨b4, az⟩⟩⟩⟩ <;> first | exact hkf | exact (by first | exact hkn _ _ _ _ _ rfl | exact hkn _ _ _ _ _ (hwr _ _ _ _) | exact hkn _ _ _ _ _ ((hwr _ _ _ _).trans (congrArg (fun z => wr2 z _ _ _) (zm_fill hwr _ _ _ _))))
  case ldc o => rcases an with _ | ⟨a1, _ | ⟨(_ | _ | a2), _ | ⟨a3, an⟩⟩⟩ <;> rcases az with _ | ⟨b1, _ | ⟨b2, az⟩⟩ <;> first | exact hkf | exact (by first | exact hkn _ _ _ _ _ rfl | exact hkn _ _ _ _ _ (hwr _ _ _ _) | exact hkn _ _ _ _ _ ((hwr _ _ _ _).trans (congrArg (fun z => wr2 z _ _ _) (zm_fill hwr _ _ _ _))))
  case ldc_w o => rcases an with _ | ⟨a1, _ | ⟨(_ | a2), _ | ⟨a3, an⟩⟩⟩ <;> rcases az with _ | ⟨b1, _ | ⟨b2, az⟩⟩ <;> first | exact hkf | exact (by first | exact hkn _ _ _ _ _ rfl | exact hkn _ _ _ _ _ (hwr _ _ _ _) | exact hkn _ _ _ _ _ ((hwr _ _ _ _).trans (congrArg (fun z => wr2 z _ _ _) (zm_fill hwr _ _ _ _))))
  case ldc2_w o => rcases az with _ | ⟨b1, _ | ⟨b2, az⟩⟩ <;> first | exact hkf | exact (by first | exact hkn _ _ _ _ _ rfl | exact hkn _ _ _ _ _ (hwr _ _ _ _) | exact hkn _ _ _ _ _ ((hwr _ _ _ _).trans (congrArg (fun z => wr2 z _ _ _) (zm_fill hwr _ _ _ _))))
  case iaload => exact zm_ri hkf _ fun c n a i s => zm_ite _ (zm_ite _ ((by first | exact hkn _ _ _ _ _ rfl | exact hkn _ _ _ _ _ (hwr _ _ _ _) | exact hkn _ _ _ _ _ ((hwr _ _ _ _).trans (congrArg (fun z => wr2 z _ _ _) (zm_fill hwr _ _ _ _))))) (zm_ite _ ((by first | exact hkn _ _ _ _ _ rfl | exact hkn _ _ _ _ _ (hwr _ _ _ _) | exact hkn _ _ _ _ _ ((hwr _ _ _ _).trans (congrArg (fun z => wr2 z _ _ _) (zm_fill hwr _ _ _ _))))) hkf)) hkf
  case baload => exact zm_ri hkf _ fun c n a i s => zm_ite _ (zm_ite _ ((by first | exact hkn _ _ _ _ _ rfl | exact hkn _ _ _ _ _ (hwr _ _ _ _) | exact hkn _ _ _ _ _ ((hwr _ _ _ _).trans (congrArg (fun z => wr2 z _ _ _) (zm_fill hwr _ _ _ _))))) hkf) (zm_ite _ (zm_ite _ ((by first | exact hkn _ _ _ _ _ rfl | exact hkn _ _ _ _ _ (hwr _ _ _ _) | exact hkn _ _ _ _ _ ((hwr _ _ _ _).trans (congrArg (fun z => wr2 z _ _ _) (zm_fill hwr _ _ _ _))))) hkf) hkf)
  case laload => exact zm_ri hkf _ fun c n a i s => zm_ite _ (zm_ite _ ((by first | exact hkn _ _ _ _ _ rfl | exact hkn _ _ _ _ _ (hwr _ _ _ _) | exact hkn _ _ _ _ _ ((hwr _ _ _ _).trans (congrArg (fun z => wr2 z _ _ _) (zm_fill hwr _ _ _ _))))) hkf) hkf
  case aaload => cases ph <;> first | exact zm_ri hkf _ fun c n a i s => zm_ite _ (zm_ite _ ((by first | exact hkn _ _ _ _ _ rfl | exact hkn _ _ _ _ _ (hwr _ _ _ _) | exact hkn _ _ _ _ _ ((hwr _ _ _ _).trans (congrArg (fun z => wr2 z _ _ _) (zm_fill hwr _ _ _ _))))) (zm_ite _ ((by first | exact hkn _ _ _ _ _ rfl | exact hkn _ _ _ _ _ (hwr _ _ _ _) | exact hkn _ _ _ _ _ ((hwr _ _ _ _).trans (congrArg (fun z => wr2 z _ _ _) (zm_fill hwr _ _ _ _))))) hkf)) hkf | exact zm_ri hkf _ fun c n a i s => zm_ite _ (zm_ite _ ((by first | exact hkn _ _ _ _ _ rfl | exact hkn _ _ _ _ _ (hwr _ _ _ _) | exact hkn _ _ _ _ _ ((hwr _ _ _ _).trans (congrArg (fun z => wr2 z _ _ _) (zm_fill hwr _ _ _ _))))) (zm_ite _ (zm_ite _ ((by first | exact hkn _ _ _ _ _ rfl | exact hkn _ _ _ _ _ (hwr _ _ _ _) | exact hkn _ _ _ _ _ ((hwr _ _ _ _).trans (congrArg (fun z => wr2 z _ _ _) (zm_fill hwr _ _ _ _))))) hkf) hkf)) hkf
  case iastore => exact zm_rii hkf _ fun c n a i x s => zm_ite _ (zm_ite _ ((by first | exact hkn _ _ _ _ _ rfl | exact hkn _ _ _ _ _ (hwr _ _ _ _) | exact hkn _ _ _ _ _ ((hwr _ _ _ _).trans (congrArg (fun z => wr2 z _ _ _) (zm_fill hwr _ _ _ _))))) hkf) hkf
  case bastore => exact zm_rii hkf _ fun c n a i x s => zm_ite _ (zm_ite _ ((by first | exact hkn _ _ _ _ _ rfl | exact hkn _ _ _ _ _ (hwr _ _ _ _) | exact hkn _ _ _ _ _ ((hwr _ _ _ _).trans (congrArg (fun z => wr2 z _ _ _) (zm_fill hwr _ _ _ _))))) hkf) hkf
  case lastore => exact zm_rij hkf _ fun c n a i x s => zm_ite _ (zm_ite _ ((by first | exact hkn _ _ _ _ _ rfl | exact hkn _ _ _ _ _ (hwr _ _ _ _) | exact hkn _ _ _ _ _ ((hwr _ _ _ _).trans (congrArg (fun z => wr2 z _ _ _) (zm_fill hwr _ _ _ _))))) hkf) hkf
  case aastore => cases ph <;> first | exact zm_rir hkf _ fun c n a i c2 n2 x s => zm_ite _ (zm_ite _ (zm_ite _ ((by first | exact hkn _ _ _ _ _ rfl | exact hkn _ _ _ _ _ (hwr _ _ _ _) | exact hkn _ _ _ _ _ ((hwr _ _ _ _).trans (congrArg (fun z => wr2 z _ _ _) (zm_fill hwr _ _ _ _))))) hkf) hkf) hkf | exact zm_rir hkf _ fun c n a i c2 n2 x s => zm_ite _ (zm_ite _ (zm_ite _ ((by first | exact hkn _ _ _ _ _ rfl | exact hkn _ _ _ _ _ (hwr _ _ _ _) | exact hkn _ _ _ _ _ ((hwr _ _ _ _).trans (congrArg (fun z => wr2 z _ _ _) (zm_fill hwr _ _ _ _))))) hkf) (zm_ite _ ((by first | exact hkn _ _ _ _ _ rfl | exact hkn _ _ _ _ _ (hwr _ _ _ _) | exact hkn _ _ _ _ _ ((hwr _ _ _ _).trans (congrArg (fun z => wr2 z _ _ _) (zm_fill hwr _ _ _ _))))) hkf)) hkf
  case arraylength => exact zm_r1 hkf _ fun c n a s => zm_ite _ ((by first | exact hkn _ _ _ _ _ rfl | exact hkn _ _ _ _ _ (hwr _ _ _ _) | exact hkn _ _ _ _ _ ((hwr _ _ _ _).trans (congrArg (fun z => wr2 z _ _ _) (zm_fill hwr _ _ _ _))))) (zm_ite _ ((by first | exact hkn _ _ _ _ _ rfl | exact hkn _ _ _ _ _ (hwr _ _ _ _) | exact hkn _ _ _ _ _ ((hwr _ _ _ _).trans (congrArg (fun z => wr2 z _ _ _) (zm_fill hwr _ _ _ _))))) hkf)
  case new o => cases ph <;> rcases an with _ | ⟨a1, _ | ⟨a2, _ | ⟨a3, _ | ⟨a4, an⟩⟩⟩⟩ <;> first | exact hkf | exact zm_ite _ ((by first | exact hkn _ _ _ _ _ rfl | exact hkn _ _ _ _ _ (hwr _ _ _ _) | exact hkn _ _ _ _ _ ((hwr _ _ _ _).trans (congrArg (fun z => wr2 z _ _ _) (zm_fill hwr _ _ _ _))))) hkf
  case newarray o => cases ph <;> rcases an with _ | ⟨a1, _ | ⟨a2, an⟩⟩ <;> first | exact hkf | exact zm_i1 hkf _ fun x s => zm_ite _ ((by first | exact hkn _ _ _ _ _ rfl | exact hkn _ _ _ _ _ (hwr _ _ _ _) | exact hkn _ _ _ _ _ ((hwr _ _ _ _).trans (congrArg (fun z => wr2 z _ _ _) (zm_fill hwr _ _ _ _))))) hkf
  case anewarray o => cases ph <;> rcases an with _ | ⟨a1, _ | ⟨a2, _ | ⟨a3, an⟩⟩⟩ <;> first | exact hkf | exact zm_i1 hkf _ fun x s => zm_ite _ ((by first | exact hkn _ _ _ _ _ rfl | exact hkn _ _ _ _ _ (hwr _ _ _ _) | exact hkn _ _ _ _ _ ((hwr _ _ _ _).trans (congrArg (fun z => wr2 z _ _ _) (zm_fill hwr _ _ _ _))))) hkf
  case multianewarray o q => cases ph <;> rcases an with _ | ⟨a1, _ | ⟨a2, _ | ⟨a3, an⟩⟩⟩ <;> first | exact hkf | exact zm_i2 hkf _ fun x y s => zm_ite _ ((by first | exact hkn _ _ _ _ _ rfl | exact hkn _ _ _ _ _ (hwr _ _ _ _) | exact hkn _ _ _ _ _ ((hwr _ _ _ _).trans (congrArg (fun z => wr2 z _ _ _) (zm_fill hwr _ _ _ _))))) hkf
  case invokevirtual o => rcases an with _ | ⟨a1, _ | ⟨a2, _ | ⟨a3, _ | ⟨a4, _ | ⟨a5, an⟩⟩⟩⟩⟩ <;> first | exact hkf | (rcases az with _ | ⟨b1, _ | ⟨b2, _ | ⟨b3, _ | ⟨b4, az⟩⟩⟩⟩ <;> first | exact hkf | exact zm_recv hkf _ _ (zm_invoke hkf hkc _ _ _ _ _))
  case invokespecial o =>
    dsimp only [zstp]
    split
    · exact zm_r1 hkf _ fun x y z s => zm_ite _ ((by first | exact hkn _ _ _ _ _ rfl | exact hkn _ _ _ _ _ (hwr _ _ _ _) | exact hkn _ _ _ _ _ ((hwr _ _ _ _).trans (congrArg (fun z => wr2 z _ _ _) (zm_fill hwr _ _ _ _))))) hkf
    · exact zm_recv hkf _ _ (zm_invoke hkf hkc _ _ _ _ _)
    · (first | exact hkf | (split <;> first | exact hkf | (exfalso; simp_all; done)))
  case invokestatic o =>
    dsimp only [zstp]
    split
    · rcases st with _ | ⟨(n | n), _ | ⟨(dp | dp), _ | ⟨(b | (b | (⟨c2, n2, b⟩ | b))), _ | ⟨(sp | sp), _ | ⟨(a | (a | (⟨c1, n1, a⟩ | a))), s⟩⟩⟩⟩⟩ <;> first
        | exact hkf
        | (dsimp only
           refine zm_ite _ ?_ hkf
           rw [← hcp m a sp b dp n]
           generalize cp1 m a sp b dp n = o
           rcases o with _ | m
           · (first | exact hkf | (split <;> first | exact hkf | (exfalso; simp_all; done)))
           · exact (by first | exact hkn _ _ _ _ _ rfl | exact hkn _ _ _ _ _ (hwr _ _ _ _) | exact hkn _ _ _ _ _ ((hwr _ _ _ _).trans (congrArg (fun z => wr2 z _ _ _) (zm_fill hwr _ _ _ _)))))
    · exact zm_invoke hkf hkc _ _ _ _ _
    · (first | exact hkf | (split <;> first | exact hkf | (exfalso; simp_all; done)))
  case ireturn =>
    rcases an with _ | ⟨a1, _ | ⟨a2, an⟩⟩ <;> first | exact hkf | (refine zm_i1 hkf _ fun x s => ?_; rcases s with _ | ⟨b, s⟩ <;> first | exact zm_retI hkf hkr _ _ _ | exact hkf)
  case lreturn => exact zm_j1 hkf _ fun x s => by rcases s with _ | ⟨b, s⟩ <;> first | exact (hkr _ _ _ rfl) | exact hkf
  case areturn => rcases az with _ | ⟨b1, _ | ⟨b2, _ | ⟨b3, az⟩⟩⟩ <;> first | exact hkf | (refine zm_r1 hkf _ fun x y z s => ?_; rcases s with _ | ⟨b, s⟩ <;> first | exact zm_ite _ ((hkr _ _ _ rfl)) hkf | exact hkf)
  case return_ => rcases st with _ | ⟨b, s⟩ <;> first | exact (hkr _ _ _ rfl) | exact hkf
  all_goals exact hkf
variable {P : Nat → Nat → Option (Jvm.ClassFile.Instr × List Nat × List Int)} {ml : Nat → Nat}
theorem zm_ex (hwr : ∀ m a k v, f (wr1 m a k v) = wr2 (f m) a k v) (hcp : ∀ m a sp b dp n, (cp1 m a sp b dp n).map f = cp2 (f m) a sp b dp n) : ∀ (n d y pc : Nat) (ls st : List zV) (m : M1),
    (zex ar ph K R P ml (fun m => rd2 (f m)) wr1 cp1 n d y pc ls st m).map (fun r => (r.1, f r.2)) = zex ar ph K R P ml rd2 wr2 cp2 n d y pc ls st (f m) := by
  intro n
  induction n with
  | zero => intro d y pc ls st m; rfl
  | succ n ih =>
    intro d y pc ls st m
    rw [zex, zex]
    cases hq : P y pc with
    | none => rfl
    | some q =>
      dsimp only
      refine zm_step (F := Option.map (fun r : Int × M1 => (r.1, f r.2))) (fun pc ls st m m' q => ?_) (fun y as m k c2 n2 pc ls st m' q => ?_) (fun x m m' q => ?_) rfl hwr hcp _ _ _ _ _ _ _
      · subst q; exact ih _ _ _ _ _ _
      · subst q
        cases d with
        | zero => rfl
        | succ d =>
          dsimp only
          rw [← ih d y 0 _ [] m]
          unfold zfit
          cases Nat.ble (zspread as).length (ml y) with
          | false => rfl
          | true =>
            dsimp only
            cases zex ar ph K R P ml (fun m => rd2 (f m)) wr1 cp1 n d y 0 (zent (ml y) as) [] m with
            | none => rfl
            | some r => exact ih _ _ _ _ _ _
      · subst q; rfl
end
/-- the number of objects only grows -/
def zGe (N : Int) : Type := {m : zMem // N ≤ m 0 0}
theorem zup_ge {N : Int} {m : zMem} (h : N ≤ m 0 0) (a k v : Int) : N ≤ zup m a k v 0 0 := by
  unfold zup
  split
  · rename_i q
    rw [← q.1, ← q.2, if_pos rfl]
    omega
  · exact h
theorem zfc_ge {N : Int} {m : zMem} (h : N ≤ m 0 0) (a sp b dp n : Int) : N ≤ zfc m a sp b dp n 0 0 := by
  unfold zfc
  rw [if_neg (fun q => q.1 q.2.1.symm)]
  exact h
theorem zex_ge {ar : Nat → Int → Int → Int} {ph : Bool} {K : Int → Int × Int} {R : Int → Int → Int} {P : Nat → Nat → Option (Jvm.ClassFile.Instr × List Nat × List Int)} {ml : Nat → Nat} {n d y pc : Nat} {ls st : List zV} {m : zMem} {r : Int × zMem} (h : zex ar ph K R P ml zrd zup zcp n d y pc ls st m = some r) : m 0 0 ≤ r.2 0 0 := by
  have e := zm_ex (M1 := zGe (m 0 0)) (f := fun z => z.1) (ar := ar) (ph := ph) (K := K) (R := R) (P := P) (ml := ml) (rd2 := zrd) (wr1 := fun z a k v => ⟨zup z.1 a k v, zup_ge z.2 a k v⟩) (wr2 := zup) (cp1 := fun z a sp b dp n => some ⟨zfc z.1 a sp b dp n, zfc_ge z.2 a sp b dp n⟩) (cp2 := zcp) (fun _ _ _ _ => rfl) (fun _ _ _ _ _ _ => rfl) n d y pc ls st ⟨m, Int.le_refl _⟩
  have h' : zex ar ph K R P ml zrd zup zcp n d y pc ls st (⟨m, Int.le_refl _⟩ : zGe (m 0 0)).1 = some r := h
  rw [← e] at h'
  obtain ⟨r1, -, h2⟩ := Option.map_eq_some_iff.mp h'
  rw [← h2]
  exact r1.2.2
