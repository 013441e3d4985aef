/-! The machine's values and memory against the JVM's -/
def zcv (ad : Int → Nat) (v0 : Value) : zV → Value
  | .inl x => .int (Int32.ofInt x)
  | .inr (.inl x) => .long (Int64.ofInt x)
  | .inr (.inr (.inl (_, _, a))) => .ref (ad a)
  | .inr (.inr (.inr _)) => v0
def zisU : zV → Bool
  | .inr (.inr (.inr _)) => true
  | _ => false
def zvok (w : zW) (n : Int) : zV → Prop
  | .inl x => zc32 x
  | .inr (.inl x) => zc64 x
  | .inr (.inr (.inl (c, k, a))) => zK w a = (c, k) ∧ a ≠ 0 ∧ a < n
  | .inr (.inr (.inr _)) => True
def zlv (ad : Int → Nat) (v0 : Value) : Nat → List zV → List (Nat × Value)
  | _, [] => []
  | i, v :: l => match zisU v with
    | true => zlv ad v0 (i + 1) l
    | false => (i, zcv ad v0 v) :: zlv ad v0 (i + 1) l
theorem zlv_mem {ad : Int → Nat} {v0 : Value} {q : Nat × Value} : ∀ {l : List zV} {i : Nat}, q ∈ zlv ad v0 i l ↔ ∃ (j : Nat) (v : zV), znth l j = some v ∧ zisU v = false ∧ q = (i + j, zcv ad v0 v)
  | [], i => by
    constructor
    · intro h; cases h
    · rintro ⟨j, v, h, -⟩; cases j <;> cases h
  | a :: l, i => by
    have ih := zlv_mem (ad := ad) (v0 := v0) (q := q) (l := l) (i := i + 1)
    rw [zlv]
    cases hu : zisU a with
    | true =>
      dsimp only
      rw [ih]
      constructor
      · rintro ⟨j, v, h1, h2, h3⟩
        exact ⟨j + 1, v, h1, h2, by rw [h3]; congr 1; omega⟩
      · rintro ⟨j, v, h1, h2, h3⟩
        cases j with
        | zero => cases h1; rw [hu] at h2; cases h2
        | succ j => exact ⟨j, v, h1, h2, by rw [h3]; congr 1; omega⟩
    | false =>
      dsimp only
      rw [List.mem_cons, ih]
      constructor
      · rintro (h | ⟨j, v, h1, h2, h3⟩)
        · exact ⟨0, a, rfl, hu, h⟩
        · exact ⟨j + 1, v, h1, h2, by rw [h3]; congr 1; omega⟩
      · rintro ⟨j, v, h1, h2, h3⟩
        cases j with
        | zero => cases h1; exact Or.inl h3
        | succ j => exact Or.inr ⟨j, v, h1, h2, by rw [h3]; congr 1; omega⟩
theorem zlv_at {ad : Int → Nat} {v0 : Value} {ls : Array Slot} {nL : Nat} {l : List zV} (h : lv_has ls nL (zlv ad v0 0 l)) {n : Nat} {v : zV} (hn : znth l n = some v) (hu : zisU v = false) : ls[n]? = some (.val (zcv ad v0 v)) := by
  have := h.2.2 (0 + n, zcv ad v0 v) (zlv_mem.mpr ⟨n, v, hn, hu, rfl⟩)
  simpa using this
theorem zlv_in {ad : Int → Nat} {v0 : Value} {l : List zV} {n : Nat} {v : zV} (hn : znth l n = some v) (hu : zisU v = false) : ∃ k : Nat, (zlv ad v0 0 l)[k]? = some (n, zcv ad v0 v) :=
  List.getElem?_of_mem (zlv_mem.mpr ⟨n, v, hn, hu, by rw [Nat.zero_add]⟩)
theorem znth_len {β : Type} : ∀ {l : List β} {n : Nat} {v : β}, znth l n = some v → n < l.length
  | [], _, _, h => by cases h
  | _ :: _, 0, _, _ => Nat.succ_pos _
  | _ :: l, n + 1, _, h => Nat.succ_lt_succ (znth_len (l := l) h)
theorem znth_st1 : ∀ (l : List zV) (n : Nat) (v : zV) (j : Nat) (u : zV), znth (zst1 l n v) j = some u → (j = n ∧ u = v) ∨ (j ≠ n ∧ ∃ u0, znth l j = some u0 ∧ (u = u0 ∨ zisU u = true) ∧ (j + 1 = n → zisU u = false → zcat u0 ≠ 2))
  | [], n, v, j, u, h => by cases j <;> cases h
  | a :: l, 0, v, j, u, h => by
    cases j with
    | zero => cases h; exact Or.inl ⟨rfl, rfl⟩
    | succ j => exact Or.inr ⟨by omega, u, h, Or.inl rfl, fun q => by omega⟩
  | a :: l, n + 1, v, j, u, h => by
    cases j with
    | zero =>
      have h : some (zlng n a) = some u := h
      refine Or.inr ⟨by omega, a, rfl, ?_, ?_⟩
      · rcases a with a | (a | a) <;> rcases n with _ | n <;> cases h <;> first | exact Or.inl rfl | exact Or.inr rfl
      · intro q hu
        rcases a with a | (a | a) <;> rcases n with _ | n <;> cases h <;> first | (simp [zcat]; done) | (cases hu; done) | omega
    | succ j =>
      rcases znth_st1 l n v j u h with ⟨h1, h2⟩ | ⟨h1, u0, h2, h3, h4⟩
      · exact Or.inl ⟨by omega, h2⟩
      · exact Or.inr ⟨by omega, u0, h2, h3, fun q => h4 (by omega)⟩
theorem zst1_len : ∀ (l : List zV) (n : Nat) (v : zV), (zst1 l n v).length = l.length
  | [], _, _ => rfl
  | _ :: _, 0, _ => rfl
  | _ :: l, n + 1, v => congrArg (· + 1) (zst1_len l n v)
theorem zst2_s (a : zV) (l : List zV) (n : Nat) (v : zV) : zst2 (a :: l) (n + 1) v = zlng n a :: zst2 l n v := by cases l <;> rfl
theorem zst2_len : ∀ (l : List zV) (n : Nat) (v : zV), (zst2 l n v).length = l.length
  | [], _, _ => rfl
  | [_], 0, _ => rfl
  | _ :: _ :: _, 0, _ => rfl
  | a :: l, n + 1, v => by rw [zst2_s]; exact congrArg (· + 1) (zst2_len l n v)
theorem znth_st2 : ∀ (l : List zV) (n : Nat) (v : zV) (j : Nat) (u : zV), n + 1 < l.length → znth (zst2 l n v) j = some u → (j = n ∧ u = v) ∨ (j = n + 1 ∧ zisU u = true) ∨ (j ≠ n ∧ j ≠ n + 1 ∧ ∃ u0, znth l j = some u0 ∧ (u = u0 ∨ zisU u = true) ∧ (j + 1 = n → zisU u = false → zcat u0 ≠ 2))
  | [], n, v, j, u, hl, h => by cases j <;> cases h
  | [a], 0, v, j, u, hl, h => by simp at hl
  | a :: b :: l, 0, v, j, u, hl, h => by
    rcases j with _ | _ | j
    · cases h; exact Or.inl ⟨rfl, rfl⟩
    · cases h; exact Or.inr (Or.inl ⟨rfl, rfl⟩)
    · exact Or.inr (Or.inr ⟨by omega, by omega, u, h, Or.inl rfl, fun q => by omega⟩)
  | a :: l, n + 1, v, j, u, hl, h => by
    rw [zst2_s] at h
    cases j with
    | zero =>
      have h : some (zlng n a) = some u := h
      refine Or.inr (Or.inr ⟨by omega, by omega, a, rfl, ?_, ?_⟩)
      · rcases a with a | (a | a) <;> rcases n with _ | n <;> cases h <;> first | exact Or.inl rfl | exact Or.inr rfl
      · intro q hu
        rcases a with a | (a | a) <;> rcases n with _ | n <;> cases h <;> first | (simp [zcat]; done) | (cases hu; done) | omega
    | succ j =>
      rcases znth_st2 l n v j u (by simp at hl; omega) h with ⟨h1, h2⟩ | ⟨h1, h2⟩ | ⟨h1, h0, u0, h2, h3, h4⟩
      · exact Or.inl ⟨by omega, h2⟩
      · exact Or.inr (Or.inl ⟨by omega, h2⟩)
      · exact Or.inr (Or.inr ⟨by omega, by omega, u0, h2, h3, fun q => h4 (by omega)⟩)
theorem zcat_cv (ad : Int → Nat) (v0 : Value) {u : zV} (hu : zisU u = false) (h : (zcv ad v0 u).category = 2) : zcat u = 2 := by
  rcases u with u | (u | (⟨a, b, c⟩ | u)) <;> first | rfl | (simp [zcv, Value.category] at h; done) | (simp [zisU] at hu; done)
/-- one word stored: what the kit's row leaves of the locals is enough -/
theorem zlv_st1 {ad : Int → Nat} {v0 : Value} {ls : Array Slot} {nL : Nat} {l : List zV} {n : Nat} {v : zV}
    (h : lv_has ls nL ((n, zcv ad v0 v) :: (zlv ad v0 0 l).filter (fun q => !(q.1 == n) && !(q.1 + 1 == n && q.2.category == 2)))) : lv_has ls nL (zlv ad v0 0 (zst1 l n v)) := by
  refine ⟨h.1, h.2.1, fun q hq => h.2.2 q ?_⟩
  obtain ⟨j, u, h1, h2, h3⟩ := zlv_mem.mp hq
  rw [Nat.zero_add] at h3
  subst h3
  rcases znth_st1 l n v j u h1 with ⟨a1, a2⟩ | ⟨a1, u0, a2, a3, a4⟩
  · rw [a1, a2]; exact List.mem_cons_self
  · rcases a3 with a3 | a3
    · subst a3
      refine List.mem_cons_of_mem _ (List.mem_filter.mpr ⟨zlv_mem.mpr ⟨j, u, a2, h2, by rw [Nat.zero_add]⟩, ?_⟩)
      by_cases e : j + 1 = n
      · have h5 : ¬ (zcv ad v0 u).category = 2 := fun c => a4 e h2 (zcat_cv ad v0 h2 c)
        simp [a1, h5]
      · simp [a1, e]
    · rw [a3] at h2; cases h2
theorem zlv_st2 {ad : Int → Nat} {v0 : Value} {ls : Array Slot} {nL : Nat} {l : List zV} {n : Nat} {v : zV} (hn : n + 1 < l.length)
    (h : lv_has ls nL ((n, zcv ad v0 v) :: (zlv ad v0 0 l).filter (fun q => !(q.1 == n) && (!(q.1 == n + 1) && !(q.1 + 1 == n && q.2.category == 2))))) : lv_has ls nL (zlv ad v0 0 (zst2 l n v)) := by
  refine ⟨h.1, h.2.1, fun q hq => h.2.2 q ?_⟩
  obtain ⟨j, u, h1, h2, h3⟩ := zlv_mem.mp hq
  rw [Nat.zero_add] at h3
  subst h3
  rcases znth_st2 l n v j u hn h1 with ⟨a1, a2⟩ | ⟨a1, a2⟩ | ⟨a1, a0, u0, a2, a3, a4⟩
  · rw [a1, a2]; exact List.mem_cons_self
  · rw [a2] at h2; cases h2
  · rcases a3 with a3 | a3
    · subst a3
      refine List.mem_cons_of_mem _ (List.mem_filter.mpr ⟨zlv_mem.mpr ⟨j, u, a2, h2, by rw [Nat.zero_add]⟩, ?_⟩)
      by_cases e : j + 1 = n
      · have h5 : ¬ (zcv ad v0 u).category = 2 := fun c => a4 e h2 (zcat_cv ad v0 h2 c)
        simp [a1, a0, h5]
      · simp [a1, a0, e]
    · rw [a3] at h2; cases h2
