/-! Call 42: days -/
noncomputable def ydr (sd : Int) : Int := zar 0 (zar 2 sd 1103515245) 12345
noncomputable def ydv (sd n : Int) : Int := zar 4 (zar 11 sd 16) n
theorem ydv_b (sd : Int) {n : Int} (hn : 0 < n) : 0 ≤ ydv sd n ∧ ydv sd n < n := by
  have h1 : zar 11 sd 16 = ((zu32 sd / 2 ^ 16 : Nat) : Int) := by
    have h : zu32 sd < 4294967296 := by unfold zu32; omega
    have e : zu32 16 % 32 = 16 := rfl
    rw [za_11, zushr, e, zw32_i (by omega)]
  unfold ydv
  rw [h1, za_4, Int.tmod_eq_emod_of_nonneg (by omega)]
  exact ⟨Int.emod_nonneg _ (by omega), Int.emod_lt_of_pos _ hn⟩
theorem s_6 (w : zW) (d : Nat) {n : Int} (hn : 0 < n) {sd : Int} {σ : zMem} (hs : σ 18 5 = sd) : zcall w d 6 [zA 1 6 18, zI n] σ = some (ydv (ydr sd) n, zup σ 18 5 (ydr sd)) := by
  rw [eX0_draw, if_neg (by omega), if_neg (by omega), hs, zup_t (by omega)]
  rfl
theorem s_330 (w : zW) (d : Nat) {n : Int} (hn : 0 < n) {sd : Int} {σ : zMem} (hs : σ 209 26 = sd) : zcall w d 330 [zA 13 32 209, zI n] σ = some (ydv (ydr sd) n, zup σ 209 26 (ydr sd)) := by
  rw [eX12_draw, if_neg (by omega), hs, zup_t (by omega)]
  rfl
/-- the block as both programs see it: places, carvings, how many of them, how many in all, what is drawn from -/
abbrev yB : Type := (Int → Int) × (Int → Int → Int) × Int × Int × Int
noncomputable def yg (sd p : Int) : Int := @ite _ (yib (ydv (ydr sd) 16) (ydv (ydr (ydr sd)) 16) (ydv (ydr (ydr (ydr sd))) 16) (ydv (ydr (ydr (ydr (ydr sd)))) 6) (p / 256) (p / 16 % 16) (p % 16)) (Int.decLe _ _) 1 0
theorem yg_t {sd p : Int} (h : yib (ydv (ydr sd) 16) (ydv (ydr (ydr sd)) 16) (ydv (ydr (ydr (ydr sd))) 16) (ydv (ydr (ydr (ydr (ydr sd)))) 6) (p / 256) (p / 16 % 16) (p % 16)) : yg sd p = 1 := if_pos h
theorem yg_f {sd p : Int} (h : ¬ yib (ydv (ydr sd) 16) (ydv (ydr (ydr sd)) 16) (ydv (ydr (ydr (ydr sd))) 16) (ydv (ydr (ydr (ydr (ydr sd)))) 6) (p / 256) (p / 16 % 16) (p % 16)) : yg sd p = 0 := if_neg h
theorem yg_01 (sd p : Int) : 0 ≤ yg sd p ∧ yg sd p ≤ 1 := by
  by_cases h : yib (ydv (ydr sd) 16) (ydv (ydr (ydr sd)) 16) (ydv (ydr (ydr (ydr sd))) 16) (ydv (ydr (ydr (ydr (ydr sd)))) 6) (p / 256) (p / 16 % 16) (p % 16)
  · rw [yg_t h]; decide
  · rw [yg_f h]; decide
noncomputable def ysd (sd : Int) : Int := ydr (ydr (ydr (ydr (ydr sd))))
/-- a carving -/
def ycv (how : Int) (g : Int → Int) (sd : Int) (B : yB) : yB :=
  ((fun p => yto how (B.1 p) (g p)), (fun i => if i = min (B.2.2.1 + 1) 12 - 1 then (fun p => ych how (B.1 p) (g p)) else B.2.1 (i + (B.2.2.1 + 1 - min (B.2.2.1 + 1) 12))), min (B.2.2.1 + 1) 12, zw32 (B.2.2.2.1 + 1), sd)
noncomputable def yday (B : yB) : yB := ycv (ydv (ysd B.2.2.2.2) 4) (yg B.2.2.2.2) (ysd B.2.2.2.2) B
noncomputable def ydays : Nat → yB → yB
  | 0, B => B
  | n + 1, B => ydays n (yday B)
/-- the class' block is B -/
def yCl (σ : zMem) (B : yB) : Prop := zBl 18 σ B.1 B.2.1 B.2.2.1 B.2.2.2.1 B.2.2.2.2
/-- the reference's block is B -/
def yRl (σ : zMem) (B : yB) : Prop := (∀ p : Int, 0 ≤ p → p < 4096 → σ 229 p = B.1 p) ∧ σ 209 24 = B.2.2.1 ∧ σ 209 25 = B.2.2.2.1 ∧ σ 209 26 = B.2.2.2.2 ∧ zPm σ
  ∧ ∀ i : Int, 0 ≤ i → i < B.2.2.1 → ∀ p : Int, 0 ≤ p → p < 4096 → σ (σ 230 i) p = B.2.1 i p
theorem zBl_sd {σ : zMem} {b : Int → Int} {c : Int → Int → Int} {nc na sd v : Int} (h : zBl 18 σ b c nc na sd) : zBl 18 (zup σ 18 5 v) b c nc na v := by
  obtain ⟨v1, v2, v3, v4, v5, v6, v7, v8, v9, v10⟩ := h
  have e2 : zup σ 18 5 v 18 2 = σ 18 2 := zup_f (by omega)
  refine ⟨(zup_f (by omega)).trans v1, (zup_f (by omega)).trans v2, zup_t (by omega), by omega, by omega, v6, v7, zPS_fr (fun k => zup_f (by omega)) v8, v9, fun i q r => ?_⟩
  rw [e2]
  exact ⟨zPS_fr (fun k => zup_f (by omega)) (v10 i q r).1, (v10 i q r).2⟩
theorem l_189s (w : zW) (d : Nat) (hd : 2 ≤ d) {n k : Int} (hk : k < n) (hk2 : 0 ≤ k ∧ k < 60) {v3 v4 v5 v6 : zV} {B : yB} {σ : zMem} (hB : yCl σ B) :
    ∃ v3' v4' v5' v6' σ', zden w (d + 1) 189 11 [zA 12 16 1, zI n, zI k, v3, v4, v5, v6] [] σ = zden w (d + 1) 189 11 [zA 12 16 1, zI n, zI (k + 1), v3', v4', v5', v6'] [] σ'
      ∧ yCl σ' (yday B) ∧ ∀ a t, ¬ (18 ≤ a ∧ a ≤ 45) → a ≠ 205 → σ' a t = σ a t := by
  obtain ⟨b, c, nc, na, sd⟩ := B
  have h5 : σ 18 5 = sd := hB.2.2.1
  obtain ⟨σ1, q1⟩ : ∃ σ1, σ1 = zup σ 18 5 (ydr sd) := ⟨_, rfl⟩
  obtain ⟨σ2, q2⟩ : ∃ σ2, σ2 = zup σ1 18 5 (ydr (ydr sd)) := ⟨_, rfl⟩
  obtain ⟨σ3, q3⟩ : ∃ σ3, σ3 = zup σ2 18 5 (ydr (ydr (ydr sd))) := ⟨_, rfl⟩
  obtain ⟨σ4, q4⟩ : ∃ σ4, σ4 = zup σ3 18 5 (ydr (ydr (ydr (ydr sd)))) := ⟨_, rfl⟩
  have B4 : zBl 18 σ4 b c nc na (ydr (ydr (ydr (ydr sd)))) := by
    rw [q4, q3, q2, q1]
    exact zBl_sd (zBl_sd (zBl_sd (zBl_sd hB)))
  obtain ⟨σ5, e5, f5, g5⟩ := s_54 w hd (ydv_b (ydr sd) (n := 16) (by decide)) (ydv_b (ydr (ydr sd)) (n := 16) (by decide)) (ydv_b (ydr (ydr (ydr sd))) (n := 16) (by decide)) (ydv_b (ydr (ydr (ydr (ydr sd)))) (n := 6) (by decide)) σ4
  obtain ⟨σ6, q6⟩ : ∃ σ6, σ6 = zup σ5 18 5 (ysd sd) := ⟨_, rfl⟩
  have B5 : zBl 18 σ5 b c nc na (ydr (ydr (ydr (ydr sd)))) := zBl_fr (fun a t x y => f5 a t (by omega)) B4
  have B6 : zBl 18 σ6 b c nc na (ysd sd) := by rw [q6]; exact zBl_sd B5
  have r1 : zR w 204 0 = 205 := rfl
  have hgb : zPS σ6 205 (fun p => zbo (yg sd p)) := fun p x y => by
    have e : zbit σ6 205 p = zbit σ5 205 p := zbit_fr fun t => by rw [q6, zup_f (by omega)]
    rw [e]
    have g := g5 p x y
    show zbit σ5 205 p = zbo (yg sd p)
    by_cases cc : yib (ydv (ydr sd) 16) (ydv (ydr (ydr sd)) 16) (ydv (ydr (ydr (ydr sd))) 16) (ydv (ydr (ydr (ydr (ydr sd)))) 6) (p / 256) (p / 16 % 16) (p % 16)
    · rw [yg_t cc, g.mpr cc]
      rfl
    · rw [yg_f cc]
      have : zbit σ5 205 p ≠ true := fun u => cc (g.mp u)
      rw [Bool.eq_false_iff.mpr this]
      rfl
  have hw := ydv_b (ysd sd) (n := 4) (by decide)
  obtain ⟨σ7, e7, g7, f7⟩ := s_7 w hd (a1 := 204) (how := ydv (ysd sd) 4) (g := yg sd) (by omega) B6 (by rw [r1]; decide) (fun p _ _ => yg_01 sd p) (by rw [r1]; exact hgb)
  refine ⟨zI (ydv (ydr sd) 16), zI (ydv (ydr (ydr sd)) 16), zI (ydv (ydr (ydr (ydr sd))) 16), zI (ydv (ydr (ydr (ydr (ydr sd)))) 6), σ7, ?_, g7, fun a t x y => ?_⟩
  · rw [hX11_days_11, if_pos hk, s_6 w d (by decide) h5, Option.bind_some, ← q1]
    dsimp only
    rw [s_6 w d (by decide) (sd := ydr sd) (by rw [q1, zup_t (by omega)]), Option.bind_some, ← q2]
    dsimp only
    rw [s_6 w d (by decide) (sd := ydr (ydr sd)) (by rw [q2, zup_t (by omega)]), Option.bind_some, ← q3]
    dsimp only
    rw [s_6 w d (by decide) (sd := ydr (ydr (ydr sd))) (by rw [q3, zup_t (by omega)]), Option.bind_some, ← q4]
    dsimp only
    rw [e5, Option.bind_some]
    dsimp only
    have e6 := s_6 w d (n := 4) (by decide) (sd := ydr (ydr (ydr (ydr sd)))) (σ := σ5) B5.2.2.1
    have q6' : zup σ5 18 5 (ydr (ydr (ydr (ydr (ydr sd))))) = σ6 := q6.symm
    rw [q6'] at e6
    rw [e6, Option.bind_some]
    dsimp only
    have e7' : zcall w d 7 [zA 1 6 18, zA 6 1 204, zI (ydv (ydr (ydr (ydr (ydr (ydr sd))))) 4)] σ6 = _ := e7
    rw [e7', Option.bind_some, za_0, zw32_i (by omega)]
  · rw [f7 a t x, q6, zup_f (by omega), f5 a t y, q4, zup_f (by omega), q3, zup_f (by omega), q2, zup_f (by omega), q1, zup_f (by omega)]
theorem l_189 (w : zW) (d : Nat) (hd : 2 ≤ d) {n : Int} (hn : n ≤ 60) : ∀ (m : Nat) (k : Int) (v3 v4 v5 v6 : zV) (B : yB) (σ : zMem), 0 ≤ k → k + m = n → yCl σ B →
    ∃ σ', zden w (d + 1) 189 11 [zA 12 16 1, zI n, zI k, v3, v4, v5, v6] [] σ = some (((yct (fun p => zbo ((ydays m B).1 p)) 4096 : Nat) : Int), σ')
      ∧ yCl σ' (ydays m B) ∧ ∀ a t, ¬ (18 ≤ a ∧ a ≤ 45) → a ≠ 205 → σ' a t = σ a t := by
  intro m
  induction m with
  | zero =>
    intro k v3 v4 v5 v6 B σ h0 h hB
    refine ⟨σ, ?_, hB, fun _ _ _ _ => rfl⟩
    have r1 : zR w 18 0 = 19 := rfl
    have r2 : zR w 19 0 = 20 := rfl
    have h8 : zPS σ 20 (fun p => zbo (B.1 p)) := hB.2.2.2.2.2.2.2.1
    rw [hX11_days_11, if_neg (by omega), eX0_places, Option.bind_some, r1]
    dsimp only
    rw [s_57 w (show 1 ≤ d by omega), Option.bind_some, r2, yct_c (n := 4096) (f := zbit σ 20) (g := fun p => zbo (B.1 p)) (fun p a b => h8 p a b)]
    rfl
  | succ m ih =>
    intro k v3 v4 v5 v6 B σ h0 h hB
    obtain ⟨a3, a4, a5, a6, σ1, e1, B1, f1⟩ := l_189s w d hd (n := n) (k := k) (v3 := v3) (v4 := v4) (v5 := v5) (v6 := v6) (by omega) (by omega) hB
    obtain ⟨σ', e, B2, f2⟩ := ih (k + 1) a3 a4 a5 a6 (yday B) σ1 (by omega) (by omega) B1
    exact ⟨σ', e1.trans e, B2, fun a t x y => (f2 a t x y).trans (f1 a t x y)⟩
