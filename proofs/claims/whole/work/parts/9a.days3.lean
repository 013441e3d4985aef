theorem zInv_B2 {σ σ' : zMem} (t : zInv σ) (h : ∀ a k, ¬ zsB a k → a ≠ 205 → ¬ (212 ≤ a ∧ a ≤ 222) → σ' a k = σ a k) (hs : zI_B σ') : zInv σ' := by
  obtain ⟨t0, t1, t2, t3, t4, t5, t6, t7⟩ := t
  exact ⟨(h _ _ (by unfold zsB; omega) (by decide) (by decide)).trans t0, zI_T_fr (fun a k q => h _ _ (by unfold zsT at q; unfold zsB; omega) (by unfold zsT at q; omega) (by unfold zsT at q; omega)) t1,
    zCa_fr t1.1.2.1 (fun a k q => h _ _ (by unfold zsC at q; unfold zsB; omega) (by unfold zsC at q; omega) (by unfold zsC at q; omega)) t2,
    zI_K_fr (fun a k q => h _ _ (by unfold zsK at q; unfold zsB; omega) (by unfold zsK at q; omega) (by unfold zsK at q; omega)) t3, hs,
    zI_S_fr (fun a k q => h _ _ (by unfold zsS at q; unfold zsB; omega) (by unfold zsS at q; omega) (by unfold zsS at q; omega)) t5,
    zI_R_fr (fun a k q => h _ _ (by unfold zsR at q; unfold zsB; omega) (by unfold zsR at q; omega) (by unfold zsR at q; omega)) t6,
    zI_P_fr (fun a k q => h _ _ (by unfold zsP at q; unfold zsB; omega) (by unfold zsP at q; omega) (by unfold zsP at q; omega)) t7⟩
theorem zBl_c {o : Int} {σ : zMem} {b b' : Int → Int} {c c' : Int → Int → Int} {nc na sd : Int} (h : zBl o σ b c nc na sd) (hb : ∀ p : Int, 0 ≤ p → p < 4096 → b' p = b p) (hc : ∀ i : Int, 0 ≤ i → i < nc → ∀ p : Int, 0 ≤ p → p < 4096 → c' i p = c i p) : zBl o σ b' c' nc na sd := by
  obtain ⟨v1, v2, v3, v4, v5, v6, v7, v8, v9, v10⟩ := h
  refine ⟨v1, v2, v3, v4, v5, v6, v7, fun p x y => ?_, fun p x y => ?_, fun i x y => ⟨fun p x2 y2 => ?_, fun p x2 y2 => ?_⟩⟩
  · dsimp only
    rw [hb p x y]; exact v8 p x y
  · rw [hb p x y]; exact v9 p x y
  · dsimp only
    rw [hc i x y p x2 y2]; exact (v10 i x y).1 p x2 y2
  · rw [hc i x y p x2 y2]; exact (v10 i x y).2 p x2 y2
/-- what the block is, out of the reference's objects -/
def yBof (σ : zMem) : yB := (σ 229, fun i => σ (σ 230 i), σ 209 24, σ 209 25, σ 209 26)
theorem yBof_C {σ : zMem} (h : zI_B σ) : yCl σ (yBof σ) := h.1
theorem yBof_R {σ : zMem} (h : zI_B σ) : yRl σ (yBof σ) := ⟨fun _ _ _ => rfl, rfl, rfl, rfl, h.2, fun _ _ _ _ _ _ => rfl⟩
theorem zI_B_of {σ : zMem} {B : yB} (h1 : yCl σ B) (h2 : yRl σ B) : zI_B σ := by
  obtain ⟨u1, u2, u3, u4, u5, u6⟩ := h2
  refine ⟨?_, u5⟩
  rw [u2, u3, u4]
  exact zBl_c h1 u1 u6
theorem yRl_fr {σ σ' : zMem} {B : yB} (hn : B.2.2.1 ≤ 12) (h : yRl σ B) (f : ∀ a k, (229 ≤ a ∧ a ≤ 242) ∨ (a = 209 ∧ 24 ≤ k ∧ k ≤ 26) → σ' a k = σ a k) : yRl σ' B := by
  obtain ⟨u1, u2, u3, u4, u5, u6⟩ := h
  have e : σ' 230 = σ 230 := funext fun k => f _ _ (by omega)
  refine ⟨fun p x y => (f _ _ (by omega)).trans (u1 p x y), (f _ _ (by omega)).trans u2, (f _ _ (by omega)).trans u3, (f _ _ (by omega)).trans u4, ?_, fun i x y p x2 y2 => ?_⟩
  · unfold zPm
    rw [e]
    exact u5
  · have h2 := (u5 i x (by omega)).1
    rw [e, f _ _ (by omega)]
    exact u6 i x y p x2 y2
theorem op_42 (w : zW) (x1 : Int) : zOp zInv w 189 331 [zI x1] := by
  intro σ hI
  by_cases h1 : 1 ≤ x1 ∧ x1 ≤ 60
  · have hB := hI.2.2.2.2.1
    have hv := hB.1
    obtain ⟨σ1, e1, C1, f1⟩ := l_189 w 998 (by decide) h1.2 x1.toNat 0 zU zU zU zU (yBof σ) σ (by omega) (by omega) (yBof_C hB)
    have R1 : yRl σ1 (yBof σ) := yRl_fr hv.2.2.2.2.2.2.1 (yBof_R hB) (fun a k q => f1 a k (by omega) (by omega))
    obtain ⟨σ2, e2, R2, f2⟩ := l_331 w 998 h1.2 x1.toNat 0 zU zU zU zU zU zU zU zU (yBof σ) σ1 (by omega) (by omega) R1 ⟨hv.2.2.2.2.2.1, hv.2.2.2.2.2.2.1⟩ (fun p x y => hv.2.2.2.2.2.2.2.2.1 p x y)
    have C2 : yCl σ2 (ydays x1.toNat (yBof σ)) := zBl_fr (fun a k x y => f2 a k (by omega) (by omega) (by omega) (by omega)) C1
    refine yop ((yct (fun p => zbo ((ydays x1.toNat (yBof σ)).1 p)) 4096 : Nat) : Int) σ1 σ2 ((eX11_days w 998 x1 σ).trans ?_) ((eX12_days w 998 x1 _).trans ?_) (zInv_B2 hI (fun a k q r t => ?_) (zI_B_of C2 R2))
    · rw [s_200, Option.bind_some]
      dsimp only
      rw [zt_if, if_pos h1]
      exact e1
    · rw [s_213, Option.bind_some]
      dsimp only
      rw [zt_if, if_pos h1]
      exact e2
    · unfold zsB at q
      rw [f2 a k (by omega) (by omega) (by omega) (by omega), f1 a k (by omega) r]
  · refine yref hI (n := -62) ((eX11_days w 998 x1 σ).trans ?_) ((eX12_days w 998 x1 _).trans ?_)
    · simp only [s_200, Option.bind_some, zt_if, s_194 w 998 (n := -62) (by decide)]
      rw [if_neg h1]
    · simp only [s_213, Option.bind_some, zt_if, s_214 w 998 (n := -62) (by decide)]
      rw [if_neg h1]
