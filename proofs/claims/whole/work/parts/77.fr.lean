/-! What stays true between calls speaks of some cells only: the rest may change -/
theorem zup_t {σ : zMem} {a k v a' k' : Int} (h : a' = a ∧ k' = k ∧ a ≠ 0) : zup σ a k v a' k' = v := by
  obtain ⟨rfl, rfl, h⟩ := h
  exact zup_s h
theorem zup_f {σ : zMem} {a k v a' k' : Int} (h : a' ≠ a ∨ k' ≠ k) : zup σ a k v a' k' = σ a' k' := zup_n (fun q => by omega)
def zsT (a k : Int) : Prop := (2 ≤ a ∧ a ≤ 9) ∨ a = 210 ∨ (a = 209 ∧ k = 1)
def zsC (a k : Int) : Prop := a = 87 ∨ (122 ≤ a ∧ a ≤ 168) ∨ a = 210 ∨ (a = 209 ∧ k = 1)
def zsK (a k : Int) : Prop := (a = 209 ∧ (k = 1 ∨ k = 31)) ∨ (a = 1 ∧ (k = 14 ∨ k = 15)) ∨ a = 210 ∨ a = 243 ∨ a = 258 ∨ (10 ≤ a ∧ a ≤ 17) ∨ (46 ≤ a ∧ a ≤ 73) ∨ a = 244 ∨ (246 ≤ a ∧ a ≤ 257)
def zsB (a k : Int) : Prop := (18 ≤ a ∧ a ≤ 45) ∨ (229 ≤ a ∧ a ≤ 242) ∨ (a = 209 ∧ 24 ≤ k ∧ k ≤ 26)
def zsS (a k : Int) : Prop := (75 ≤ a ∧ a ≤ 77) ∨ (226 ≤ a ∧ a ≤ 228) ∨ (a = 209 ∧ k = 1)
def zsR (a k : Int) : Prop := a = 208 ∨ a = 211
def zsP (a k : Int) : Prop := (a = 78 ∧ k = 1) ∨ (a = 209 ∧ k = 11) ∨ a = 79 ∨ a = 223
theorem zTb_fr {o : Int} {σ σ' : zMem} {T : Int → Int} {n : Int} (h : ∀ a k, o ≤ a → a ≤ o + 7 → σ' a k = σ a k) (t : zTb o σ T n) : zTb o σ' T n := by
  refine ⟨(h _ _ (by omega) (by omega)).trans t.1, fun s a b => ?_⟩
  obtain ⟨h1, h2, h3, h4, h5, h6, h7⟩ := t.2 s a b
  exact ⟨(h _ _ (by omega) (by omega)).trans h1, (h _ _ (by omega) (by omega)).trans h2, (h _ _ (by omega) (by omega)).trans h3, (h _ _ (by omega) (by omega)).trans h4,
    (h _ _ (by omega) (by omega)).trans h5, (h _ _ (by omega) (by omega)).trans h6, fun k c d => (h _ _ (by omega) (by omega)).trans (h7 k c d)⟩
theorem zbit_fr {σ σ' : zMem} {o p : Int} (h : ∀ k, σ' o k = σ o k) : zbit σ' o p = zbit σ o p := by rw [zbit, zbit, h]
theorem zPS_fr {σ σ' : zMem} {o : Int} {f : Int → Bool} (h : ∀ k, σ' o k = σ o k) (t : zPS σ o f) : zPS σ' o f := fun p a b => (zbit_fr h).trans (t p a b)
theorem zBl_fr {o : Int} {σ σ' : zMem} {b : Int → Int} {c : Int → Int → Int} {nc na sd : Int} (h : ∀ a k, o ≤ a → a ≤ o + 27 → σ' a k = σ a k) (t : zBl o σ b c nc na sd) : zBl o σ' b c nc na sd := by
  obtain ⟨t1, t2, t3, t4, t5, t6, t7, t8, t9, t10⟩ := t
  have e2 : σ' o 2 = σ o 2 := h _ _ (by omega) (by omega)
  refine ⟨(h _ _ (by omega) (by omega)).trans t1, (h _ _ (by omega) (by omega)).trans t2, (h _ _ (by omega) (by omega)).trans t3, by omega, by omega, t6, t7, zPS_fr (fun k => h _ _ (by omega) (by omega)) t8, t9, fun i q r => ?_⟩
  rw [e2]
  exact ⟨zPS_fr (fun k => h _ _ (by omega) (by omega)) (t10 i q r).1, (t10 i q r).2⟩
theorem zI_T_fr {σ σ' : zMem} (h : ∀ a k, zsT a k → σ' a k = σ a k) (t : zI_T σ) : zI_T σ' := by
  have e1 : σ' 210 = σ 210 := funext fun k => h _ _ (Or.inr (Or.inl rfl))
  have e2 : σ' 209 1 = σ 209 1 := h _ _ (Or.inr (Or.inr ⟨rfl, rfl⟩))
  unfold zI_T
  rw [e1, e2]
  exact ⟨t.1, zTb_fr (fun a k q r => h _ _ (Or.inl ⟨q, r⟩)) t.2⟩
theorem zCa_fr {σ σ' : zMem} (hn : σ 209 1 ≤ 24) (h : ∀ a k, zsC a k → σ' a k = σ a k) (t : zCa σ (σ 210) (σ 209 1)) : zCa σ' (σ' 210) (σ' 209 1) := by
  have e1 : σ' 210 = σ 210 := funext fun k => h _ _ (by unfold zsC; omega)
  have e2 : σ' 209 1 = σ 209 1 := h _ _ (by unfold zsC; omega)
  rw [e1, e2]
  intro i a b
  rw [h 87 i (by unfold zsC; omega)]
  rcases t i a b with q | q
  · exact Or.inl q
  · exact Or.inr ⟨q.1, zPS_fr (fun k => h _ _ (by unfold zsC; omega)) q.2⟩
theorem zI_K_fr {σ σ' : zMem} (h : ∀ a k, zsK a k → σ' a k = σ a k) (t : zI_K σ) : zI_K σ' := by
  have e1 : σ' 209 31 = σ 209 31 := h _ _ (by unfold zsK; omega)
  have e2 : σ' 1 14 = σ 1 14 := h _ _ (by unfold zsK; omega)
  have e3 : σ' 1 15 = σ 1 15 := h _ _ (by unfold zsK; omega)
  have e4 : σ' 209 1 = σ 209 1 := h _ _ (by unfold zsK; omega)
  have e5 : σ' 243 = σ 243 := funext fun k => h _ _ (by unfold zsK; omega)
  have e6 : σ' 258 = σ 258 := funext fun k => h _ _ (by unfold zsK; omega)
  have e7 : σ' 210 = σ 210 := funext fun k => h _ _ (by unfold zsK; omega)
  have e8 : σ' 244 = σ 244 := funext fun k => h _ _ (by unfold zsK; omega)
  obtain ⟨t1, t2, t3, t4, t5, t6⟩ := t
  unfold zI_K
  rw [e1, e2, e3, e4, e5, e6, e7, e8]
  refine ⟨t1, t2, t3, t4, t5, fun q => ?_⟩
  obtain ⟨u1, u2, u3, u4, u5⟩ := t6 q
  refine ⟨u1, zTb_fr (fun a k q r => h _ _ (by unfold zsK; omega)) u2, u3, u4, ?_⟩
  have u6 := zBl_fr (σ' := σ') (fun a k q r => h _ _ (by unfold zsK; omega)) u5
  obtain ⟨v1, v2, v3, v4, v5, v6, v7, v8, v9, v10⟩ := u6
  refine ⟨v1, v2, v3, v4, v5, v6, v7, v8, v9, fun i q r => ?_⟩
  have e9 : σ' (246 + i) = σ (246 + i) := funext fun k => h _ _ (by unfold zsK; omega)
  dsimp only
  rw [e9]
  exact v10 i q r
theorem zI_B_fr {σ σ' : zMem} (h : ∀ a k, zsB a k → σ' a k = σ a k) (t : zI_B σ) : zI_B σ' := by
  obtain ⟨t1, t2⟩ := t
  have e1 : σ' 229 = σ 229 := funext fun k => h _ _ (by unfold zsB; omega)
  have e2 : σ' 230 = σ 230 := funext fun k => h _ _ (by unfold zsB; omega)
  have e3 : ∀ k, 24 ≤ k → k ≤ 26 → σ' 209 k = σ 209 k := fun k a b => h _ _ (by unfold zsB; omega)
  refine ⟨?_, ?_⟩
  · rw [e1, e2, e3 24 (by decide) (by decide), e3 25 (by decide) (by decide), e3 26 (by decide) (by decide)]
    obtain ⟨v1, v2, v3, v4, v5, v6, v7, v8, v9, v10⟩ := zBl_fr (σ' := σ') (fun a k q r => h _ _ (by unfold zsB; omega)) t1
    refine ⟨v1, v2, v3, v4, v5, v6, v7, v8, v9, fun i q r => ?_⟩
    have e9 : σ' (σ 230 i) = σ (σ 230 i) := funext fun k => h _ _ (by have := (t2 i q (by omega)).1; unfold zsB; omega)
    dsimp only
    rw [e9]
    exact v10 i q r
  · unfold zPm
    rw [e2]
    exact t2
theorem zI_S_fr {σ σ' : zMem} (h : ∀ a k, zsS a k → σ' a k = σ a k) (t : zI_S σ) : zI_S σ' := by
  intro s a b
  have h2 := t s a b
  rw [h 75 s (by unfold zsS; omega), h 226 s (by unfold zsS; omega), h 76 s (by unfold zsS; omega), h 227 s (by unfold zsS; omega), h 209 1 (by unfold zsS; omega)]
  refine ⟨h2.1, h2.2.1, fun i c d => ?_⟩
  rw [h 77 _ (by unfold zsS; omega), h 228 _ (by unfold zsS; omega)]
  exact h2.2.2 i c d
theorem zI_R_fr {σ σ' : zMem} (h : ∀ a k, zsR a k → σ' a k = σ a k) (t : zI_R σ) : zI_R σ' := by
  intro s a b
  rw [h 208 s (Or.inl rfl), h 211 s (Or.inr rfl)]
  exact t s a b
theorem zI_P_fr {σ σ' : zMem} (h : ∀ a k, zsP a k → σ' a k = σ a k) (t : zI_P σ) : zI_P σ' := by
  unfold zI_P
  rw [h 78 1 (by unfold zsP; omega), h 209 11 (by unfold zsP; omega)]
  refine ⟨t.1, t.2.1, t.2.2.1, fun i a b => ?_⟩
  rw [h 79 i (by unfold zsP; omega), h 223 i (by unfold zsP; omega)]
  exact t.2.2.2 i a b
/-- all but what counts refusals -/
def zsX (a k : Int) : Prop := (a = 0 ∧ k = 0) ∨ zsT a k ∨ zsC a k ∨ zsK a k ∨ zsB a k ∨ zsS a k ∨ zsP a k
theorem zInv_fr {σ σ' : zMem} (t : zInv σ) (h : ∀ a k, zsX a k → σ' a k = σ a k) (hr : zI_R σ') : zInv σ' := by
  obtain ⟨t0, t1, t2, t3, t4, t5, t6, t7⟩ := t
  exact ⟨(h 0 0 (Or.inl ⟨rfl, rfl⟩)).trans t0, zI_T_fr (fun a k q => h a k (Or.inr (Or.inl q))) t1, zCa_fr t1.1.2.1 (fun a k q => h a k (Or.inr (Or.inr (Or.inl q)))) t2,
    zI_K_fr (fun a k q => h a k (Or.inr (Or.inr (Or.inr (Or.inl q))))) t3, zI_B_fr (fun a k q => h a k (Or.inr (Or.inr (Or.inr (Or.inr (Or.inl q)))))) t4,
    zI_S_fr (fun a k q => h a k (Or.inr (Or.inr (Or.inr (Or.inr (Or.inr (Or.inl q))))))) t5, hr, zI_P_fr (fun a k q => h a k (Or.inr (Or.inr (Or.inr (Or.inr (Or.inr (Or.inr q))))))) t7⟩
