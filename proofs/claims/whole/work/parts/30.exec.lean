/-! Runs: fuel function zex, its limit zden, the unfolding equation, and 'zunr' (many instructions at once, up to cut points) -/
abbrev zKN (M : Type) (α : Type) : Type := Nat → List zV → List zV → M → α
abbrev zKC (M : Type) (α : Type) : Type := Nat → List zV → M → Nat → Int → Int → Nat → List zV → List zV → α
abbrev zAct (M : Type) : Type := (Nat × List zV × List zV × M) ⊕ ((Nat × List zV × M × Nat × Int × Int × Nat × List zV × List zV) ⊕ ((Int × M) ⊕ Unit))
def zint {M α : Type} (act : zAct M) (kn : zKN M α) (kc : zKC M α) (kr : Int → M → α) (kf : α) : α := match act with
  | .inl (pc, ls, st, m) => kn pc ls st m
  | .inr (.inl (y, as, m, k, c2, n2, pc, ls, st)) => kc y as m k c2 n2 pc ls st
  | .inr (.inr (.inl (x, m))) => kr x m
  | .inr (.inr (.inr _)) => kf
/-- what is one of the four ends, and the same one for all continuations -/
def zGood {M : Type} (F : ∀ α : Type, zKN M α → zKC M α → (Int → M → α) → α → α) : Prop := ∃ act : zAct M, ∀ (α : Type) (kn : zKN M α) (kc : zKC M α) (kr : Int → M → α) (kf : α), F α kn kc kr kf = zint act kn kc kr kf
theorem zg_kn {M : Type} (pc : Nat) (ls st : List zV) (m : M) : zGood (fun α kn (_ : zKC M α) _ _ => kn pc ls st m) := ⟨.inl (pc, ls, st, m), fun _ _ _ _ _ => rfl⟩
theorem zg_kc {M : Type} (y : Nat) (as : List zV) (m : M) (k : Nat) (c2 n2 : Int) (pc : Nat) (ls st : List zV) : zGood (fun α (_ : zKN M α) kc _ _ => kc y as m k c2 n2 pc ls st) := ⟨.inr (.inl (y, as, m, k, c2, n2, pc, ls, st)), fun _ _ _ _ _ => rfl⟩
theorem zg_kr {M : Type} (x : Int) (m : M) : zGood (fun α (_ : zKN M α) (_ : zKC M α) kr _ => kr x m) := ⟨.inr (.inr (.inl (x, m))), fun _ _ _ _ _ => rfl⟩
theorem zg_kf {M : Type} : zGood (fun α (_ : zKN M α) (_ : zKC M α) (_ : Int → M → α) kf => kf) := ⟨.inr (.inr (.inr ())), fun _ _ _ _ _ => rfl⟩
theorem zg_ite {M : Type} {F G : ∀ α : Type, zKN M α → zKC M α → (Int → M → α) → α → α} (c : Prop) {h : Decidable c} (hF : zGood F) (hG : zGood G) : zGood (fun α kn kc kr kf => @ite α c h (F α kn kc kr kf) (G α kn kc kr kf)) := by
  by_cases q : c
  · obtain ⟨act, ha⟩ := hF
    exact ⟨act, fun α kn kc kr kf => (if_pos q).trans (ha α kn kc kr kf)⟩
  · obtain ⟨act, ha⟩ := hG
    exact ⟨act, fun α kn kc kr kf => (if_neg q).trans (ha α kn kc kr kf)⟩
section
variable {M : Type} (F1 : ∀ α : Type, zKN M α → zKC M α → (Int → M → α) → α → Int → List zV → α)
theorem zg_i1 (st : List zV) (h : ∀ x s, zGood (fun α kn kc kr kf => F1 α kn kc kr kf x s)) : zGood (fun α kn kc kr kf => zi1 kf st (F1 α kn kc kr kf)) := by
  rcases st with _ | ⟨(x | x), s⟩
  · exact zg_kf
  · exact h x s
  · exact zg_kf
theorem zg_j1 (st : List zV) (h : ∀ x s, zGood (fun α kn kc kr kf => F1 α kn kc kr kf x s)) : zGood (fun α kn kc kr kf => zj1 kf st (F1 α kn kc kr kf)) := by
  rcases st with _ | ⟨(x | (x | x)), s⟩
  · exact zg_kf
  · exact zg_kf
  · exact h x s
  · exact zg_kf
variable (F2 : ∀ α : Type, zKN M α → zKC M α → (Int → M → α) → α → Int → Int → List zV → α)
theorem zg_i2 (st : List zV) (h : ∀ x y s, zGood (fun α kn kc kr kf => F2 α kn kc kr kf x y s)) : zGood (fun α kn kc kr kf => zi2 kf st (F2 α kn kc kr kf)) := by
  rcases st with _ | ⟨(x | x), _ | ⟨(y | y), s⟩⟩
  · exact zg_kf
  · exact zg_kf
  · exact h y x s
  · exact zg_kf
  · exact zg_kf
  · exact zg_kf
  · exact zg_kf
theorem zg_j2 (st : List zV) (h : ∀ x y s, zGood (fun α kn kc kr kf => F2 α kn kc kr kf x y s)) : zGood (fun α kn kc kr kf => zj2 kf st (F2 α kn kc kr kf)) := by
  rcases st with _ | ⟨(x | (x | x)), _ | ⟨(y | (y | y)), s⟩⟩
  all_goals first | exact h y x s | exact zg_kf
theorem zg_ji (st : List zV) (h : ∀ x y s, zGood (fun α kn kc kr kf => F2 α kn kc kr kf x y s)) : zGood (fun α kn kc kr kf => zji kf st (F2 α kn kc kr kf)) := by
  rcases st with _ | ⟨(x | (x | x)), _ | ⟨(y | (y | y)), s⟩⟩
  all_goals first | exact h y x s | exact zg_kf
variable (F3 : ∀ α : Type, zKN M α → zKC M α → (Int → M → α) → α → Int → Int → Int → List zV → α)
theorem zg_r1 (st : List zV) (h : ∀ x y z s, zGood (fun α kn kc kr kf => F3 α kn kc kr kf x y z s)) : zGood (fun α kn kc kr kf => zr1 kf st (F3 α kn kc kr kf)) := by
  rcases st with _ | ⟨(x | (x | (⟨x, y, z⟩ | x))), s⟩
  all_goals first | exact h x y z s | exact zg_kf
variable (F4 : ∀ α : Type, zKN M α → zKC M α → (Int → M → α) → α → Int → Int → Int → Int → List zV → α)
theorem zg_ri (st : List zV) (h : ∀ x y z i s, zGood (fun α kn kc kr kf => F4 α kn kc kr kf x y z i s)) : zGood (fun α kn kc kr kf => zri kf st (F4 α kn kc kr kf)) := by
  rcases st with _ | ⟨(i | i), _ | ⟨(x | (x | (⟨x, y, z⟩ | x))), s⟩⟩
  all_goals first | exact h x y z i s | exact zg_kf
variable (F5 : ∀ α : Type, zKN M α → zKC M α → (Int → M → α) → α → Int → Int → Int → Int → Int → List zV → α)
theorem zg_rii (st : List zV) (h : ∀ x y z i v s, zGood (fun α kn kc kr kf => F5 α kn kc kr kf x y z i v s)) : zGood (fun α kn kc kr kf => zrii kf st (F5 α kn kc kr kf)) := by
  rcases st with _ | ⟨(v | v), _ | ⟨(i | i), _ | ⟨(x | (x | (⟨x, y, z⟩ | x))), s⟩⟩⟩
  all_goals first | exact h x y z i v s | exact zg_kf
theorem zg_rij (st : List zV) (h : ∀ x y z i v s, zGood (fun α kn kc kr kf => F5 α kn kc kr kf x y z i v s)) : zGood (fun α kn kc kr kf => zrij kf st (F5 α kn kc kr kf)) := by
  rcases st with _ | ⟨(v | (v | v)), _ | ⟨(i | i), _ | ⟨(x | (x | (⟨x, y, z⟩ | x))), s⟩⟩⟩
  all_goals first | exact h x y z i v s | exact zg_kf
variable (F7 : ∀ α : Type, zKN M α → zKC M α → (Int → M → α) → α → Int → Int → Int → Int → Int → Int → Int → List zV → α)
theorem zg_rir (st : List zV) (h : ∀ x y z i c n v s, zGood (fun α kn kc kr kf => F7 α kn kc kr kf x y z i c n v s)) : zGood (fun α kn kc kr kf => zrir kf st (F7 α kn kc kr kf)) := by
  rcases st with _ | ⟨(v | (v | (⟨c, n, v⟩ | v))), _ | ⟨(i | i), _ | ⟨(x | (x | (⟨x, y, z⟩ | x))), s⟩⟩⟩
  all_goals first | exact h x y z i c n v s | exact zg_kf
variable (G1 : ∀ α : Type, zKN M α → zKC M α → (Int → M → α) → α → Nat → α)
theorem zg_sw (x : Int) (d : Nat) (h : ∀ t, zGood (fun α kn kc kr kf => G1 α kn kc kr kf t)) : ∀ (ts : List Nat) (v : Int), zGood (fun α kn kc kr kf => zsw x (G1 α kn kc kr kf) d v ts)
  | [], _ => h d
  | t :: r, v => zg_ite (x = v) (h t) (zg_sw x d h r (v + 1))
theorem zg_lk (x : Int) (d : Nat) (h : ∀ t, zGood (fun α kn kc kr kf => G1 α kn kc kr kf t)) : ∀ (ts : List Nat) (vs : List Int), zGood (fun α kn kc kr kf => zlk x (G1 α kn kc kr kf) d vs ts)
  | _, [] => h d
  | [], _ :: _ => h d
  | t :: r, v :: vs => zg_ite (x = v) (h t) (zg_lk x d h r vs)
theorem zg_cond (c : Jvm.ClassFile.Cond) (x y : Int) {F G : ∀ α : Type, zKN M α → zKC M α → (Int → M → α) → α → α} (hF : zGood F) (hG : zGood G) : zGood (fun α kn kc kr kf => zcond c x y (F α kn kc kr kf) (G α kn kc kr kf)) := by
  cases c <;> first | exact zg_ite _ hF hG | exact zg_ite _ hG hF
end
section
variable {M : Type} (ar : Nat → Int → Int → Int) (ph : Bool) (K : Int → Int × Int) (R : Int → Int → Int) (rd : M → Int → Int → Int) (wr : M → Int → Int → Int → M) (cp : M → Int → Int → Int → Int → Int → Option M)
theorem zg_retI (k : Nat) (x : Int) (m : M) : zGood (fun α (_ : zKN M α) (_ : zKC M α) kr kf => zretI kr kf k x m) := by
  unfold zretI
  split <;> (repeat' first | with_reducible exact zg_kn _ _ _ _ | with_reducible exact zg_kf | with_reducible exact zg_kr _ _ | with_reducible exact zg_kc _ _ _ _ _ _ _ _ _ | with_reducible refine zg_ite _ ?_ ?_)
theorem zg_getf (k : Int) (ty : Nat) (c2 n2 a : Int) (m : M) (pc : Nat) (ls st : List zV) : zGood (fun α kn (_ : zKC M α) _ kf => zgetf ph R rd kf k ty c2 n2 a m (fun v => kn (pc + 1) ls (v :: st) m)) := by
  rcases ty with _ | _ | _ | _ | _ | ty <;> cases ph <;> first | exact zg_kn _ _ _ _ | exact zg_ite _ (zg_kn _ _ _ _) zg_kf
theorem zg_putf (c : Nat) (k : Int) (ty : Nat) (c2 n2 : Int) (m : M) (pc : Nat) (ls st : List zV) : zGood (fun α kn (_ : zKC M α) _ kf => zputf ph R wr kf c k ty c2 n2 st m (fun st m => kn (pc + 1) ls st m)) := by
  rcases ty with _ | _ | _ | _ | _ | _ | _ | ty <;> rcases st with _ | ⟨(v | (v | (⟨c3, n3, v⟩ | v))), _ | ⟨(x | (x | (⟨x, y, z⟩ | x))), s⟩⟩ <;> cases ph <;> first | exact zg_kf | exact zg_ite _ (zg_kn _ _ _ _) zg_kf
theorem zg_invoke (an : List Nat) (az : List Int) (pc : Nat) (ls st : List zV) (m : M) : zGood (fun α (_ : zKN M α) kc _ kf => zinvoke kc kf an az pc ls st m) := by
  unfold zinvoke
  rcases an with _ | ⟨a1, _ | ⟨a2, _ | ⟨a3, _ | ⟨a4, _ | ⟨a5, an⟩⟩⟩⟩⟩ <;> rcases az with _ | ⟨b1, _ | ⟨b2, _ | ⟨b3, az⟩⟩⟩ <;> dsimp only <;> (repeat' first | with_reducible exact zg_kn _ _ _ _ | with_reducible exact zg_kf | with_reducible exact zg_kr _ _ | with_reducible exact zg_kc _ _ _ _ _ _ _ _ _ | with_reducible refine zg_ite _ ?_ ?_)
theorem zg_recv (c : Int) (n : Nat) (st : List zV) {F : ∀ α : Type, zKN M α → zKC M α → (Int → M → α) → α → α} (h : zGood F) : zGood (fun α kn kc kr kf => zrecv kf c n st (F α kn kc kr kf)) := by
  unfold zrecv
  generalize znth st (n - 1) = o
  rcases o with _ | (x | (x | (⟨c', n', a⟩ | x))) <;> dsimp only
  · exact zg_kf
  · exact zg_kf
  · exact zg_kf
  · exact zg_ite _ h zg_kf
  · exact zg_kf
set_option maxHeartbeats 4000000 in
theorem zstp_good (pc : Nat) (ls st : List zV) (m : M) (i : Jvm.ClassFile.Instr) (an : List Nat) (az : List Int) : zGood (fun α kn kc kr kf => zstp ar ph K R rd wr cp kn kc kr kf pc ls st m i an az) := by
  cases i
  case iconst n => exact zg_kn _ _ _ _
  case bipush n => exact zg_kn _ _ _ _
  case sipush n => exact zg_kn _ _ _ _
  case lconst n =>
    dsimp only [zstp]
    split <;> exact zg_kn _ _ _ _
  case iload n =>
    dsimp only [zstp]
    generalize znth ls n = o
    rcases o with _ | (x | (x | (q | x))) <;> dsimp only <;> first | exact zg_kn _ _ _ _ | exact zg_kf
  case iload_n n =>
    dsimp only [zstp]
    generalize znth ls n.val = o
    rcases o with _ | (x | (x | (q | x))) <;> dsimp only <;> first | exact zg_kn _ _ _ _ | exact zg_kf
  case lload n =>
    dsimp only [zstp]
    generalize znth ls n = o
    rcases o with _ | (x | (x | (q | x))) <;> dsimp only <;> first | exact zg_kn _ _ _ _ | exact zg_kf
  case lload_n n =>
    dsimp only [zstp]
    generalize znth ls n.val = o
    rcases o with _ | (x | (x | (q | x))) <;> dsimp only <;> first | exact zg_kn _ _ _ _ | exact zg_kf
  case aload n =>
    dsimp only [zstp]
    generalize znth ls n = o
    rcases o with _ | (x | (x | (q | x))) <;> dsimp only <;> first | exact zg_kn _ _ _ _ | exact zg_kf
  case aload_n n =>
    dsimp only [zstp]
    generalize znth ls n.val = o
    rcases o with _ | (x | (x | (q | x))) <;> dsimp only <;> first | exact zg_kn _ _ _ _ | exact zg_kf
  case iinc n v =>
    dsimp only [zstp]
    generalize znth ls n = o
    rcases o with _ | (x | (x | (q | x))) <;> dsimp only <;> first | exact zg_kn _ _ _ _ | exact zg_kf
  case istore n => exact zg_i1 _ _ fun x s => zg_ite _ (zg_kn _ _ _ _) zg_kf
  case istore_n n => exact zg_i1 _ _ fun x s => zg_ite _ (zg_kn _ _ _ _) zg_kf
  case lstore n => exact zg_j1 _ _ fun x s => zg_ite _ (zg_kn _ _ _ _) zg_kf
  case lstore_n n => exact zg_j1 _ _ fun x s => zg_ite _ (zg_kn _ _ _ _) zg_kf
  case astore n => exact zg_r1 _ _ fun x y z s => zg_ite _ (zg_kn _ _ _ _) zg_kf
  case astore_n n => exact zg_r1 _ _ fun x y z s => zg_ite _ (zg_kn _ _ _ _) zg_kf
  case iadd => exact zg_i2 _ _ fun x y s => zg_kn _ _ _ _
  case isub => exact zg_i2 _ _ fun x y s => zg_kn _ _ _ _
  case imul => exact zg_i2 _ _ fun x y s => zg_kn _ _ _ _
  case iand => exact zg_i2 _ _ fun x y s => zg_kn _ _ _ _
  case ior => exact zg_i2 _ _ fun x y s => zg_kn _ _ _ _
  case ixor => exact zg_i2 _ _ fun x y s => zg_kn _ _ _ _
  case ishl => exact zg_i2 _ _ fun x y s => zg_kn _ _ _ _
  case ishr => exact zg_i2 _ _ fun x y s => zg_kn _ _ _ _
  case iushr => exact zg_i2 _ _ fun x y s => zg_kn _ _ _ _
  case idiv => exact zg_i2 _ _ fun x y s => zg_ite _ zg_kf (zg_kn _ _ _ _)
  case irem => exact zg_i2 _ _ fun x y s => zg_ite _ zg_kf (zg_kn _ _ _ _)
  case ladd => exact zg_j2 _ _ fun x y s => zg_kn _ _ _ _
  case lsub => exact zg_j2 _ _ fun x y s => zg_kn _ _ _ _
  case lmul => exact zg_j2 _ _ fun x y s => zg_kn _ _ _ _
  case land => exact zg_j2 _ _ fun x y s => zg_kn _ _ _ _
  case lor => exact zg_j2 _ _ fun x y s => zg_kn _ _ _ _
  case lxor => exact zg_j2 _ _ fun x y s => zg_kn _ _ _ _
  case lcmp => exact zg_j2 _ _ fun x y s => zg_kn _ _ _ _
  case ldiv => exact zg_j2 _ _ fun x y s => zg_ite _ zg_kf (zg_kn _ _ _ _)
  case lrem => exact zg_j2 _ _ fun x y s => zg_ite _ zg_kf (zg_kn _ _ _ _)
  case ineg => exact zg_i1 _ _ fun x s => zg_kn _ _ _ _
  case i2l => exact zg_i1 _ _ fun x s => zg_kn _ _ _ _
  case i2b => exact zg_i1 _ _ fun x s => zg_kn _ _ _ _
  case i2s => exact zg_i1 _ _ fun x s => zg_kn _ _ _ _
  case i2c => exact zg_i1 _ _ fun x s => zg_kn _ _ _ _
  case lneg => exact zg_j1 _ _ fun x s => zg_kn _ _ _ _
  case l2i => exact zg_j1 _ _ fun x s => zg_kn _ _ _ _
  case lshl => exact zg_ji _ _ fun x y s => zg_kn _ _ _ _
  case lushr => exact zg_ji _ _ fun x y s => zg_kn _ _ _ _
  case dup => rcases st with _ | ⟨(x | (x | x)), s⟩ <;> first | exact zg_kn _ _ _ _ | exact zg_kf
  case pop => rcases st with _ | ⟨(x | (x | x)), s⟩ <;> first | exact zg_kn _ _ _ _ | exact zg_kf
  case dup2 => rcases st with _ | ⟨(x | (x | x)), _ | ⟨(y | (y | (q | y))), s⟩⟩ <;> first | exact zg_kn _ _ _ _ | exact zg_kf
  case goto o => rcases an with _ | ⟨a1, _ | ⟨a2, an⟩⟩ <;> first | exact zg_kn _ _ _ _ | exact zg_kf
  case ifCond c o => rcases an with _ | ⟨a1, _ | ⟨a2, an⟩⟩ <;> first | exact zg_kf | exact zg_i1 _ _ fun x s => zg_cond c x 0 (zg_kn _ _ _ _) (zg_kn _ _ _ _)
  case if_icmp c o => rcases an with _ | ⟨a1, _ | ⟨a2, an⟩⟩ <;> first | exact zg_kf | exact zg_i2 _ _ fun x y s => zg_cond c x y (zg_kn _ _ _ _) (zg_kn _ _ _ _)
  case tableswitch a lo b c => rcases an with _ | ⟨a1, an⟩ <;> first | exact zg_kf | exact zg_i1 _ _ fun x s => zg_sw _ x a1 (fun t => zg_kn _ _ _ _) an lo
  case lookupswitch a b => rcases an with _ | ⟨a1, an⟩ <;> first | exact zg_kf | exact zg_i1 _ _ fun x s => zg_lk _ x a1 (fun t => zg_kn _ _ _ _) an az
  case getfield o => rcases an with _ | ⟨a1, _ | ⟨a2, _ | ⟨a3, _ | ⟨a4, an⟩⟩⟩⟩ <;> first | exact zg_kf | (rcases az with _ | ⟨b1, _ | ⟨b2, _ | ⟨b3, _ | ⟨b4, az⟩⟩⟩⟩ <;> first | exact zg_kf | exact zg_r1 _ _ fun x y z s => zg_ite _ (zg_getf ph R rd _ _ _ _ _ _ _ _ _) zg_kf)
  case putfield o => rcases an with _ | ⟨a1, _ | ⟨a2, _ | ⟨a3, _ | ⟨a4, an⟩⟩⟩⟩ <;> first | exact zg_kf | (rcases az with _ | ⟨b1, _ | ⟨b2, _ | ⟨b3, _ | ⟨b4, az⟩⟩⟩⟩ <;> first | exact zg_kf | exact zg_putf ph R wr _ _ _ _ _ _ _ _ _)
  case getstatic o => rcases an with _ | ⟨a1, _ | ⟨(_ | _ | _ | a2), _ | ⟨a3, an⟩⟩⟩ <;> rcases az with _ | ⟨b1, _ | ⟨b2, _ | ⟨b3, _ | ⟨b4, az⟩⟩⟩⟩ <;> first | exact zg_kf | exact zg_kn _ _ _ _
  case ldc o => rcases an with _ | ⟨a1, _ | ⟨(_ | _ | a2), _ | ⟨a3, an⟩⟩⟩ <;> rcases az with _ | ⟨b1, _ | ⟨b2, az⟩⟩ <;> first | exact zg_kf | exact zg_kn _ _ _ _
  case ldc_w o => rcases an with _ | ⟨a1, _ | ⟨(_ | a2), _ | ⟨a3, an⟩⟩⟩ <;> rcases az with _ | ⟨b1, _ | ⟨b2, az⟩⟩ <;> first | exact zg_kf | exact zg_kn _ _ _ _
  case ldc2_w o => rcases az with _ | ⟨b1, _ | ⟨b2, az⟩⟩ <;> first | exact zg_kf | exact zg_kn _ _ _ _
  case iaload => exact zg_ri _ _ fun c n a i s => zg_ite _ (zg_ite _ (zg_kn _ _ _ _) (zg_ite _ (zg_kn _ _ _ _) zg_kf)) zg_kf
  case baload => exact zg_ri _ _ fun c n a i s => zg_ite _ (zg_ite _ (zg_kn _ _ _ _) zg_kf) (zg_ite _ (zg_ite _ (zg_kn _ _ _ _) zg_kf) zg_kf)
  case laload => exact zg_ri _ _ fun c n a i s => zg_ite _ (zg_ite _ (zg_kn _ _ _ _) zg_kf) zg_kf
  case aaload => cases ph <;> first | exact zg_ri _ _ fun c n a i s => zg_ite _ (zg_ite _ (zg_kn _ _ _ _) (zg_ite _ (zg_kn _ _ _ _) zg_kf)) zg_kf | exact zg_ri _ _ fun c n a i s => zg_ite _ (zg_ite _ (zg_kn _ _ _ _) (zg_ite _ (zg_ite _ (zg_kn _ _ _ _) zg_kf) zg_kf)) zg_kf
  case iastore => exact zg_rii _ _ fun c n a i x s => zg_ite _ (zg_ite _ (zg_kn _ _ _ _) zg_kf) zg_kf
  case bastore => exact zg_rii _ _ fun c n a i x s => zg_ite _ (zg_ite _ (zg_kn _ _ _ _) zg_kf) zg_kf
  case lastore => exact zg_rij _ _ fun c n a i x s => zg_ite _ (zg_ite _ (zg_kn _ _ _ _) zg_kf) zg_kf
  case aastore => cases ph <;> first | exact zg_rir _ _ fun c n a i c2 n2 x s => zg_ite _ (zg_ite _ (zg_ite _ (zg_kn _ _ _ _) zg_kf) zg_kf) zg_kf | exact zg_rir _ _ fun c n a i c2 n2 x s => zg_ite _ (zg_ite _ (zg_ite _ (zg_kn _ _ _ _) zg_kf) (zg_ite _ (zg_kn _ _ _ _) zg_kf)) zg_kf
  case arraylength => exact zg_r1 _ _ fun c n a s => zg_ite _ (zg_kn _ _ _ _) (zg_ite _ (zg_kn _ _ _ _) zg_kf)
  case new o => cases ph <;> rcases an with _ | ⟨a1, _ | ⟨a2, _ | ⟨a3, _ | ⟨a4, an⟩⟩⟩⟩ <;> first | exact zg_kf | exact zg_ite _ (zg_kn _ _ _ _) zg_kf
  case newarray o => cases ph <;> rcases an with _ | ⟨a1, _ | ⟨a2, an⟩⟩ <;> first | exact zg_kf | exact zg_i1 _ _ fun x s => zg_ite _ (zg_kn _ _ _ _) zg_kf
  case anewarray o => cases ph <;> rcases an with _ | ⟨a1, _ | ⟨a2, _ | ⟨a3, an⟩⟩⟩ <;> first | exact zg_kf | exact zg_i1 _ _ fun x s => zg_ite _ (zg_kn _ _ _ _) zg_kf
  case multianewarray o q => cases ph <;> rcases an with _ | ⟨a1, _ | ⟨a2, _ | ⟨a3, an⟩⟩⟩ <;> first | exact zg_kf | exact zg_i2 _ _ fun x y s => zg_ite _ (zg_kn _ _ _ _) zg_kf
  case invokevirtual o => rcases an with _ | ⟨a1, _ | ⟨a2, _ | ⟨a3, _ | ⟨a4, _ | ⟨a5, an⟩⟩⟩⟩⟩ <;> first | exact zg_kf | (rcases az with _ | ⟨b1, _ | ⟨b2, _ | ⟨b3, _ | ⟨b4, az⟩⟩⟩⟩ <;> first | exact zg_kf | exact zg_recv _ _ _ (zg_invoke _ _ _ _ _ _))
  case invokespecial o =>
    dsimp only [zstp]
    split
    · exact zg_r1 _ _ fun x y z s => zg_ite _ (zg_kn _ _ _ _) zg_kf
    · exact zg_recv _ _ _ (zg_invoke _ _ _ _ _ _)
    · exact zg_kf
  case invokestatic o =>
    dsimp only [zstp]
    split
    · rcases st with _ | ⟨(n | n), _ | ⟨(dp | dp), _ | ⟨(b | (b | (⟨c2, n2, b⟩ | b))), _ | ⟨(sp | sp), _ | ⟨(a | (a | (⟨c1, n1, a⟩ | a))), s⟩⟩⟩⟩⟩ <;> first
        | exact zg_kf
        | (dsimp only
           refine zg_ite _ ?_ zg_kf
           generalize cp m a sp b dp n = o
           rcases o with _ | m
           · exact zg_kf
           · exact zg_kn _ _ _ _)
    · exact zg_invoke _ _ _ _ _ _
    · exact zg_kf
  case ireturn =>
    rcases an with _ | ⟨a1, _ | ⟨a2, an⟩⟩ <;> first | exact zg_kf | (refine zg_i1 _ _ fun x s => ?_; rcases s with _ | ⟨b, s⟩ <;> first | exact zg_retI _ _ _ | exact zg_kf)
  case lreturn => exact zg_j1 _ _ fun x s => by rcases s with _ | ⟨b, s⟩ <;> first | exact zg_kr _ _ | exact zg_kf
  case areturn => rcases az with _ | ⟨b1, _ | ⟨b2, _ | ⟨b3, az⟩⟩⟩ <;> first | exact zg_kf | (refine zg_r1 _ _ fun x y z s => ?_; rcases s with _ | ⟨b, s⟩ <;> first | exact zg_ite _ (zg_kr _ _) zg_kf | exact zg_kf)
  case return_ => rcases st with _ | ⟨b, s⟩ <;> first | exact zg_kr _ _ | exact zg_kf
  all_goals exact zg_kf
theorem zstp_act (pc : Nat) (ls st : List zV) (m : M) (i : Jvm.ClassFile.Instr) (an : List Nat) (az : List Int) : ∃ act : zAct M, ∀ (α : Type) (kn : zKN M α) (kc : zKC M α) (kr : Int → M → α) (kf : α), zstp ar ph K R rd wr cp kn kc kr kf pc ls st m i an az = zint act kn kc kr kf := zstp_good ar ph K R rd wr cp pc ls st m i an az
end
/-- the arguments fit the locals -/
def zfit {β : Type} (n : Nat) (as : List zV) (x : Option β) : Option β := match Nat.ble (zspread as).length n, zT8 with
  | true, _ => x
  | false, _ => none
theorem zfit_some {β : Type} {n : Nat} {as : List zV} {x : Option β} {r : β} (h : zfit n as x = some r) : (zspread as).length ≤ n ∧ x = some r := by
  unfold zfit at h
  cases hb : Nat.ble (zspread as).length n with
  | false => rw [hb] at h; cases h
  | true => rw [hb] at h; exact ⟨Nat.le_of_ble_eq_true hb, h⟩
theorem zfit_of {β : Type} {n : Nat} {as : List zV} {x : Option β} (h : (zspread as).length ≤ n) : zfit n as x = x := by
  unfold zfit
  rw [Nat.ble_eq_true_of_le h]
def zex {M : Type} (ar : Nat → Int → Int → Int) (ph : Bool) (K : Int → Int × Int) (R : Int → Int → Int) (P : Nat → Nat → Option (Jvm.ClassFile.Instr × List Nat × List Int)) (ml : Nat → Nat) (rd : M → Int → Int → Int) (wr : M → Int → Int → Int → M) (cp : M → Int → Int → Int → Int → Int → Option M) : Nat → Nat → Nat → Nat → List zV → List zV → M → Option (Int × M)
  | 0, _, _, _, _, _, _ => none
  | n + 1, d, y, pc, ls, st, m => match P y pc with
    | none => none
    | some q => zstp ar ph K R rd wr cp (fun pc ls st m => zex ar ph K R P ml rd wr cp n d y pc ls st m)
        (fun y' as m k c2 n2 pc ls st => match d with
          | 0 => none
          | d + 1 => (zfit (ml y') as (zex ar ph K R P ml rd wr cp n d y' 0 (zent (ml y') as) [] m)).bind fun r => zex ar ph K R P ml rd wr cp n (d + 1) y pc ls (zpush k c2 n2 r.1 st) r.2)
        (fun x m => some (x, m)) none pc ls st m q.1 q.2.1 q.2.2
section
variable {M : Type} (ar : Nat → Int → Int → Int) (ph : Bool) (K : Int → Int × Int) (R : Int → Int → Int) (P : Nat → Nat → Option (Jvm.ClassFile.Instr × List Nat × List Int)) (ml : Nat → Nat) (rd : M → Int → Int → Int) (wr : M → Int → Int → Int → M) (cp : M → Int → Int → Int → Int → Int → Option M)
theorem zex_mono1 : ∀ (n d y pc : Nat) (ls st : List zV) (m : M) (r : Int × M), zex ar ph K R P ml rd wr cp n d y pc ls st m = some r → zex ar ph K R P ml rd wr cp (n + 1) d y pc ls st m = some r := by
  intro n
  induction n with
  | zero => intro d y pc ls st m r h; cases h
  | succ n ih =>
    intro d y pc ls st m r h
    rw [zex] at h ⊢
    cases hq : P y pc with
    | none => rw [hq] at h; cases h
    | some q =>
      rw [hq] at h
      dsimp only at h ⊢
      obtain ⟨act, ha⟩ := zstp_act ar ph K R rd wr cp pc ls st m q.1 q.2.1 q.2.2
      rw [ha] at h ⊢
      rcases act with ⟨pc', ls', st', m'⟩ | ⟨y', as, m', k, c2, n2, pc', ls', st'⟩ | ⟨x, m'⟩ | u
      · exact ih _ _ _ _ _ _ _ h
      · dsimp only [zint] at h ⊢
        cases d with
        | zero => cases h
        | succ d =>
          dsimp only at h ⊢
          cases hc : zfit (ml y') as (zex ar ph K R P ml rd wr cp n d y' 0 (zent (ml y') as) [] m') with
          | none => rw [hc] at h; cases h
          | some v =>
            rw [hc] at h
            rw [zfit_of (zfit_some hc).1, ih _ _ _ _ _ _ _ (zfit_some hc).2]
            exact ih _ _ _ _ _ _ _ h
      · exact h
      · exact h
theorem zex_mono {n n' d y pc : Nat} {ls st : List zV} {m : M} {r : Int × M} (hn : n ≤ n') (h : zex ar ph K R P ml rd wr cp n d y pc ls st m = some r) : zex ar ph K R P ml rd wr cp n' d y pc ls st m = some r := by
  induction hn with
  | refl => exact h
  | step _ ih => exact zex_mono1 ar ph K R P ml rd wr cp _ _ _ _ _ _ _ _ ih
theorem zex_det {n n' d y pc : Nat} {ls st : List zV} {m : M} {r r' : Int × M} (h : zex ar ph K R P ml rd wr cp n d y pc ls st m = some r) (h' : zex ar ph K R P ml rd wr cp n' d y pc ls st m = some r') : r = r' := by
  have h1 := zex_mono ar ph K R P ml rd wr cp (Nat.le_max_left n n') h
  have h2 := zex_mono ar ph K R P ml rd wr cp (Nat.le_max_right n n') h'
  rw [h1] at h2
  exact Option.some.inj h2
noncomputable def zlim (d y pc : Nat) (ls st : List zV) (m : M) : Option (Int × M) :=
  @dite _ (∃ n r, zex ar ph K R P ml rd wr cp n d y pc ls st m = some r) (Classical.propDecidable _) (fun h => some (Classical.choose (Classical.choose_spec h))) (fun _ => none)
theorem zlim_of {n d y pc : Nat} {ls st : List zV} {m : M} {r : Int × M} (h : zex ar ph K R P ml rd wr cp n d y pc ls st m = some r) : zlim ar ph K R P ml rd wr cp d y pc ls st m = some r := by
  have hx : ∃ n r, zex ar ph K R P ml rd wr cp n d y pc ls st m = some r := ⟨n, r, h⟩
  unfold zlim
  rw [dif_pos hx]
  exact congrArg some (zex_det ar ph K R P ml rd wr cp (Classical.choose_spec (Classical.choose_spec hx)) h)
theorem zlim_ex {d y pc : Nat} {ls st : List zV} {m : M} {r : Int × M} (h : zlim ar ph K R P ml rd wr cp d y pc ls st m = some r) : ∃ n, zex ar ph K R P ml rd wr cp n d y pc ls st m = some r := by
  unfold zlim at h
  by_cases hx : ∃ n r, zex ar ph K R P ml rd wr cp n d y pc ls st m = some r
  · rw [dif_pos hx] at h
    have := Option.some.inj h
    exact ⟨Classical.choose hx, by rw [← this]; exact Classical.choose_spec (Classical.choose_spec hx)⟩
  · rw [dif_neg hx] at h
    cases h
theorem zopt_ext {β : Type} {a b : Option β} (h : ∀ r, a = some r ↔ b = some r) : a = b := by
  cases a with
  | none => cases b with
    | none => rfl
    | some y => exact absurd ((h y).mpr rfl) (by simp)
  | some x => exact ((h x).mp rfl).symm
theorem zlim_eq (d y pc : Nat) (ls st : List zV) (m : M) : zlim ar ph K R P ml rd wr cp d y pc ls st m = match P y pc with
    | none => none
    | some q => zstp ar ph K R rd wr cp (fun pc ls st m => zlim ar ph K R P ml rd wr cp d y pc ls st m)
        (fun y' as m k c2 n2 pc ls st => match d with
          | 0 => none
          | d + 1 => (zfit (ml y') as (zlim ar ph K R P ml rd wr cp d y' 0 (zent (ml y') as) [] m)).bind fun r => zlim ar ph K R P ml rd wr cp (d + 1) y pc ls (zpush k c2 n2 r.1 st) r.2)
        (fun x m => some (x, m)) none pc ls st m q.1 q.2.1 q.2.2 := by
  apply zopt_ext
  intro r
  cases hq : P y pc with
  | none =>
    dsimp only
    refine ⟨fun h => ?_, fun h => by cases h⟩
    obtain ⟨n, h⟩ := zlim_ex ar ph K R P ml rd wr cp h
    cases n with
    | zero => cases h
    | succ n => rw [zex, hq] at h; cases h
  | some q =>
    dsimp only
    obtain ⟨act, ha⟩ := zstp_act ar ph K R rd wr cp pc ls st m q.1 q.2.1 q.2.2
    rw [ha]
    constructor
    · intro h
      obtain ⟨n, h⟩ := zlim_ex ar ph K R P ml rd wr cp h
      cases n with
      | zero => cases h
      | succ n =>
        rw [zex, hq] at h
        dsimp only at h
        rw [ha] at h
        rcases act with ⟨pc', ls', st', m'⟩ | ⟨y', as, m', k, c2, n2, pc', ls', st'⟩ | ⟨x, m'⟩ | u
        · exact zlim_of ar ph K R P ml rd wr cp h
        · dsimp only [zint] at h ⊢
          cases d with
          | zero => cases h
          | succ d =>
            dsimp only at h ⊢
            cases hc : zfit (ml y') as (zex ar ph K R P ml rd wr cp n d y' 0 (zent (ml y') as) [] m') with
            | none => rw [hc] at h; cases h
            | some v =>
              rw [hc] at h
              rw [zfit_of (zfit_some hc).1, zlim_of ar ph K R P ml rd wr cp (zfit_some hc).2]
              exact zlim_of ar ph K R P ml rd wr cp h
        · exact h
        · cases h
    · intro h
      rcases act with ⟨pc', ls', st', m'⟩ | ⟨y', as, m', k, c2, n2, pc', ls', st'⟩ | ⟨x, m'⟩ | u
      · obtain ⟨n, h⟩ := zlim_ex ar ph K R P ml rd wr cp h
        refine zlim_of ar ph K R P ml rd wr cp (n := n + 1) ?_
        rw [zex, hq]
        dsimp only
        rw [ha]
        exact h
      · dsimp only [zint] at h
        cases d with
        | zero => cases h
        | succ d =>
          dsimp only at h
          cases hc : zfit (ml y') as (zlim ar ph K R P ml rd wr cp d y' 0 (zent (ml y') as) [] m') with
          | none => rw [hc] at h; cases h
          | some v =>
            rw [hc] at h
            obtain ⟨n1, h1⟩ := zlim_ex ar ph K R P ml rd wr cp (zfit_some hc).2
            obtain ⟨n2, h2⟩ := zlim_ex ar ph K R P ml rd wr cp (show zlim ar ph K R P ml rd wr cp _ _ _ _ _ _ = some r from h)
            refine zlim_of ar ph K R P ml rd wr cp (n := max n1 n2 + 1) ?_
            rw [zex, hq]
            dsimp only
            rw [ha]
            dsimp only [zint]
            rw [zfit_of (zfit_some hc).1, zex_mono ar ph K R P ml rd wr cp (Nat.le_max_left n1 n2) h1]
            exact zex_mono ar ph K R P ml rd wr cp (Nat.le_max_right n1 n2) h2
      · refine zlim_of ar ph K R P ml rd wr cp (n := 1) ?_
        rw [zex, hq]
        dsimp only
        rw [ha]
        exact h
      · cases h
end
