section
/-! Call 9, shape: both programs at once: a bracket that closes -/
def qfA (b r k : Int) (σ σ' : zMem) : Prop := ∀ c t, ¬ (c = 78 ∧ 2 ≤ t ∧ t ≤ 5) → c ≠ 84 → (80 ≤ c ∧ c ≤ 82 → t < k) → (c = 83 → t < 6 * k) → (3 ≤ c ∧ c ≤ 8 → t < b + r) → (c = 9 → t < 6 * (b + r)) → σ' c t = σ c t
def qfB (r k : Int) (σ σ' : zMem) : Prop := ∀ c t, (c = 209 → t < 12 ∨ (15 < t ∧ t ≠ 17)) → (c = 224 → t < 11 * r) → (c = 225 → t < 6 * k) → σ' c t = σ c t
theorem qfA_t {b r k r' k' : Int} {σ σ1 σ2 : zMem} (hr : r ≤ r') (hk : k ≤ k') (h : qfA b r k σ σ1) (g : qfA b r' k' σ1 σ2) : qfA b r k σ σ2 := fun c t u1 u2 u3 u4 u5 u6 => (g c t u1 u2 (fun x => by have := u3 x; omega) (fun x => by have := u4 x; omega) (fun x => by have := u5 x; omega) (fun x => by have := u6 x; omega)).trans (h c t u1 u2 u3 u4 u5 u6)
theorem qfB_t {r k r' k' : Int} {σ σ1 σ2 : zMem} (hr : r ≤ r') (hk : k ≤ k') (h : qfB r k σ σ1) (g : qfB r' k' σ1 σ2) : qfB r k σ σ2 := fun c t u1 u2 u3 => (g c t u1 (fun x => by have := u2 x; omega) (fun x => by have := u3 x; omega)).trans (h c t u1 u2 u3)
def qS (n : Int) (B : Int → Int) (b : Int) (σA σB : zMem) (a r k : Int) : Prop := ytC σA n B ∧ σA 78 2 = a ∧ σA 78 3 = -1 ∧ σA 78 4 = r ∧ σA 78 5 = k ∧ σA 2 7 = b ∧ ytk σB n B a ∧ σB 209 17 = r ∧ ∀ s, 0 ≤ s → s < r → qrA b σA (b + s) ∧ qrB b σA σB s
noncomputable def qL (w : zW) (d : Nat) (σ : zMem) (x i : Int) : Option (Int × zMem) := zden w (d + 3) 68 16 [zA 7 11 78, zA 10 8 2, zI x, zI i] [] σ
noncomputable def qE (w : zW) (d : Nat) (σ : zMem) (i la t : Int) (v2 v5 v6 v7 : zV) : Option (Int × zMem) := ((zden w (d + 1) 71 9 [zA 7 11 78, zA 10 8 2, v2, zI la, zI t, v5, v6, v7] [] σ).bind fun r => if 0 ≤ r.1 ∧ r.1 ≤ 1 then some (r.1, r.2) else none).bind fun r => qL w d r.2 r.1 (i + 1)
theorem qL_0 (w : zW) (d : Nat) (σ : zMem) (i : Int) : qL w d σ 0 i = some (σ 78 3, σ) := by
  unfold qL
  rw [hX6_read_16]
  by_cases c : 250 < i
  · rw [if_pos c]
  · rw [if_neg c, if_pos rfl]
theorem qL_1 (w : zW) (d : Nat) (σ : zMem) {i : Int} (hi : 0 ≤ i ∧ i ≤ 250) : qL w d σ 1 i = (zcall w (d + 2) 69 [zA 7 11 78, zA 10 8 2] σ).bind fun r => qL w d r.2 r.1 (i + 1) := by
  unfold qL
  rw [hX6_read_16, if_neg (by omega), if_neg (by decide), za_0, zw32_i (by omega)]
theorem qE_0 (w : zW) {d : Nat} {σ σ' : zMem} {i la t : Int} {v2 v5 v6 v7 : zV} (h : zden w (d + 1) 71 9 [zA 7 11 78, zA 10 8 2, v2, zI la, zI t, v5, v6, v7] [] σ = some (0, σ')) : qE w d σ i la t v2 v5 v6 v7 = some (σ' 78 3, σ') := by
  unfold qE
  rw [h, Option.bind_some]
  dsimp only
  rw [if_pos (by decide), Option.bind_some]
  exact qL_0 w d σ' _
theorem qE_1 (w : zW) {d : Nat} {σ σ' : zMem} {i la t : Int} {v2 v5 v6 v7 : zV} (h : zden w (d + 1) 71 9 [zA 7 11 78, zA 10 8 2, v2, zI la, zI t, v5, v6, v7] [] σ = some (1, σ')) : qE w d σ i la t v2 v5 v6 v7 = qL w d σ' 1 (i + 1) := by
  unfold qE
  rw [h, Option.bind_some]
  dsimp only
  rw [if_pos (by decide), Option.bind_some]
theorem qE_c (w : zW) {d : Nat} {σ σ' : zMem} {i la t la' t' : Int} {v2 v5 v6 v7 v2' v5' v6' v7' : zV} (h : zden w (d + 1) 71 9 [zA 7 11 78, zA 10 8 2, v2, zI la, zI t, v5, v6, v7] [] σ = zden w (d + 1) 71 9 [zA 7 11 78, zA 10 8 2, v2', zI la', zI t', v5', v6', v7'] [] σ') : qE w d σ i la t v2 v5 v6 v7 = qE w d σ' i la' t' v2' v5' v6' v7' := by
  unfold qE
  rw [h]
/-- the sign that is the token -/
theorem qtk_41 {σ : zMem} {n a : Int} {B : Int → Int} (t : ytk σ n B a) : (σ 209 14 = 3 ∧ σ 209 15 = 41) ↔ B (ysk n B a) = 41 := by
  obtain ⟨-, -, u0, u1, u2, u3, u4⟩ := t
  constructor
  · intro ⟨h1, h2⟩
    by_cases w3 : B (ysk n B a) = 45 ∨ B (ysk n B a) = 40 ∨ B (ysk n B a) = 44 ∨ B (ysk n B a) = 41
    · rw [← (u3 w3).2.2]; exact h2
    · exfalso
      by_cases w0 : B (ysk n B a) = -1
      · have := (u0 w0).1; omega
      · by_cases w1 : 97 ≤ B (ysk n B a) ∧ B (ysk n B a) ≤ 122
        · have := (u1 w1).1; omega
        · by_cases w2 : 48 ≤ B (ysk n B a) ∧ B (ysk n B a) ≤ 57
          · have := (u2 w2).1; omega
          · have := (u4 ⟨w0, w1, w2, w3⟩).1; omega
  · intro h
    have := u3 (by omega)
    exact ⟨this.1, this.2.2.trans h⟩
theorem q_close (w : zW) {n b : Int} {B : Int → Int} (hB : ytB n B) (hb : 0 ≤ b ∧ b ≤ 24) {d e : Nat} (hd : 8 ≤ d) (he : 6 ≤ e) {a i k r K word f g la : Int} {σA σB : zMem} {v2 v5 v6 v7 v4 : zV} (S : qS n B b σA σB a r (k + 1)) (ha : 0 ≤ a ∧ a ≤ n) (hk : 0 ≤ k ∧ k < 64) (hr : 0 ≤ r ∧ r < 60) (e80 : σA 80 k = K) (e81 : σA 81 k = word) (hw : 0 ≤ word) (hN : zNV K (fun j => σA 83 (6 * k + j))) (ag : ∀ j, 0 ≤ j → j < zno K → σA 83 (6 * k + j) = σB 225 (6 * k + j))
    (hl : 0 ≤ la) (hp : (8 ≤ K ∧ K ≤ 11 ∧ σA 82 k = f ∧ (b ≤ f ∧ f < b + r) ∧ (b ≤ g ∧ g < b + r) ∧ g = la) ∨ (12 ≤ K ∧ K ≤ 17 ∧ (b ≤ f ∧ f < b + r) ∧ f = la ∧ g = -1)) :
    (∃ σA' σB', qE w d σA i la k v2 v5 v6 v7 = some (σB' 209 13, σA') ∧ zden w (e + 1) 304 102 [zA 13 32 209, zI k, zI word, zI K, v4, zI (f - b), zI (if g < 0 then -1 else g - b), zU, zU, zU, zU] [] σB = some (-1, σB') ∧ 0 ≤ σB' 209 13 ∧ qfA b r k σA σA' ∧ qfB r k σB σB')
    ∨ (∃ a' v2' v5' v6' v7' σA' σB', qE w d σA i la k v2 v5 v6 v7 = qE w d σA' i (b + r) (k - 1) v2' v5' v6' v7' ∧ zden w (e + 1) 304 102 [zA 13 32 209, zI k, zI word, zI K, v4, zI (f - b), zI (if g < 0 then -1 else g - b), zU, zU, zU, zU] [] σB = some (r, σB') ∧ qS n B b σA' σB' a' (r + 1) k ∧ a + 1 ≤ a' ∧ a' ≤ n ∧ qfA b r k σA σA' ∧ qfB r k σB σB') := by
  obtain ⟨tC, e2, e3, e4, e5, e27, tk, e17, rows⟩ := S
  have yb := ysk_b hB ha.2
  have hkr : qkr b (b + r) K f g := by
    rcases hp with ⟨x, y, -, p, q, -⟩ | ⟨x, y, p, -, q⟩
    · exact Or.inr (Or.inl ⟨x, y, p, q⟩)
    · exact Or.inr (Or.inr ⟨x, y, p, q⟩)
  have hK5 : 5 < K := by omega
  have hf0 : ¬ f < 0 := by omega
  have pt : ∀ x, b ≤ x → x < b + r → qpt σA x := fun x x0 x1 => by
    have := (rows (x - b) (by omega) (by omega)).1
    rw [show b + (x - b) = x by omega] at this
    exact qrA_p (by omega) this
  have hkp : qkp σA K f g := by
    rcases hp with ⟨x, y, -, p, q, -⟩ | ⟨x, y, p, -, q⟩
    · exact Or.inr (Or.inl ⟨x, y, pt f p.1 p.2, pt g q.1 q.2⟩)
    · exact Or.inr (Or.inr ⟨x, y, pt f p.1 p.2, q⟩)
  obtain ⟨v2', v5', v6', v7', eC⟩ := e_close w (d := d) (by omega) (v2 := v2) (v5 := v5) (v6 := v6) (v7 := v7) (la := la) (f := f) (g := g) hB tC e2 ha hk e80 hl (by
    rcases hp with ⟨x, y, p, p1, q, q1⟩ | ⟨x, y, p, p1, q⟩
    · exact Or.inl ⟨x, y, p, by omega, q1⟩
    · exact Or.inr ⟨x, y, p1, q⟩)
  have e102 := hX12_shapeRead_102 w e k word K (f - b) (if g < 0 then -1 else g - b) v4 σB
  rw [eX12_isClosed] at e102
  by_cases c : B (ysk n B a) = 41
  · obtain ⟨k14, k15⟩ := (qtk_41 tk).2 c
    have lt : ysk n B a < n := Classical.byContradiction fun u => by have := hB.2.2.1 (ysk n B a) (by omega); omega
    rw [if_pos k14, if_pos k15, Option.bind_some] at e102
    dsimp only at e102
    rw [if_neg (show ¬ (1 : Int) = 0 by decide)] at e102
    obtain ⟨dp1, dp2⟩ := q_dp (σB := σB) hb.1 rows hkr
    rw [if_neg hf0] at dp1 dp2
    have rowB : ∀ x, b ≤ x → x < b + r → (0 ≤ x - b ∧ x - b < 69) ∧ (0 ≤ σB 224 (11 * (x - b) + 3) ∧ σB 224 (11 * (x - b) + 3) ≤ 6) ∧ 0 ≤ σB 224 (11 * (x - b) + 4) ∧ σB 224 (11 * (x - b) + 4) ≤ 2 := fun x x0 x1 => by
      obtain ⟨-, ra, rb, -, -⟩ := (rows (x - b) (by omega) (by omega)).1
      obtain ⟨-, -, -, u4, u5, -⟩ := (rows (x - b) (by omega) (by omega)).2
      rw [u4, u5]
      exact ⟨by omega, ra.2, rb.2⟩
    rw [l_107 w (e := e) (by omega) (fun _ => rowB f (by omega) (by omega)) (fun _ => by
      by_cases g0 : g < 0
      · exact Or.inl (if_pos g0)
      · rw [if_neg g0]; exact Or.inr (rowB g (by omega) (by omega))), dp1, dp2] at e102
    obtain ⟨σ1, hσ1⟩ : ∃ σ1, σ1 = zup σA 78 2 (ysk n B a + 1) := ⟨_, rfl⟩
    have f1 : ∀ c t, (c ≠ 78 ∨ t ≠ 2) → σ1 c t = σA c t := fun c t u => by rw [hσ1]; exact zup_f (by omega)
    obtain ⟨kp1, d1, d2, d3⟩ := qkp_f (σ' := σ1) (fun s _ _ => ⟨f1 _ _ (by omega), f1 _ _ (by omega), f1 _ _ (by omega)⟩) hkp
    rw [if_pos c, ← hσ1, s_119r w (by omega) kp1, Option.bind_some, d1, d2] at eC
    dsimp only at eC
    rw [zt_if] at eC
    by_cases c6 : 6 < qde σA K f g ∨ 2 < qbl σA K f g
    · rw [if_pos c6] at eC e102
      refine Or.inl ⟨zup σ1 78 3 (σ1 81 k), zup σB 209 13 word, (qE_0 w eC).trans ?_, e102, ?_, fun c t u1 u2 u3 u4 u5 u6 => ?_, fun c t u1 u2 u3 => ?_⟩
      · rw [zup_t ⟨rfl, rfl, by decide⟩, zup_t ⟨rfl, rfl, by decide⟩, f1 _ _ (by omega), e81]
      · rw [zup_t ⟨rfl, rfl, by decide⟩]; exact hw
      · rw [zup_f (by omega), f1 _ _ (by omega)]
      · exact zup_f (by omega)
    · rw [if_neg c6] at eC e102
      rw [if_pos hK5] at e102
      obtain ⟨σ2, hσ2⟩ : ∃ σ2, σ2 = zfc σ1 83 (6 * k) 84 0 6 := ⟨_, rfl⟩
      have f2 : ∀ c t, c ≠ 84 → σ2 c t = σ1 c t := fun c t u => by rw [hσ2]; exact zfc_f (by omega)
      have g2 : ∀ j, 0 ≤ j → j < 6 → σ2 84 j = σA 83 (6 * k + j) := fun j x y => by
        rw [hσ2, zfc_t ⟨by decide, rfl, by omega, by omega⟩, f1 _ _ (by omega)]
        congr 1; omega
      obtain ⟨kp2, d4, d5, d6⟩ := qkp_f (σ' := σ2) (fun s _ _ => ⟨f2 _ _ (by decide), f2 _ _ (by decide), f2 _ _ (by decide)⟩) kp1
      have e80' : σ2 80 k = K := by rw [f2 _ _ (by decide), f1 _ _ (by omega)]; exact e80
      obtain ⟨σ3, m1, m2, m3, m4, m5, m6, m7, m8, m9, mA, mB, mC⟩ := s_72 w (d := d) (by omega) (σ := σ2) (by rw [f2 _ _ (by decide), f1 _ _ (by omega)]; exact e27) (by rw [f2 _ _ (by decide), f1 _ _ (by omega)]; exact e4) hb.1 hr.1 (by omega) hkr kp2
      rw [← hσ2, e80', m1, Option.bind_some] at eC
      dsimp only at eC
      obtain ⟨σ4, hσ4⟩ : ∃ σ4, σ4 = zup σ3 78 5 k := ⟨_, rfl⟩
      rw [← hσ4] at eC
      have f4 : ∀ c t, (c ≠ 78 ∨ t ≠ 5) → σ4 c t = σ3 c t := fun c t u => by rw [hσ4]; exact zup_f (by omega)
      obtain ⟨tR, t13, -, -, -, u3, -⟩ := id tk
      obtain ⟨σB1, n1, n2, n3⟩ := s_300 w (d := e) (by omega) hB tR (a := ysk n B a + 1) (by omega) (by omega) (u3 (by omega)).2.1
      rw [n1, Option.bind_some] at e102
      dsimp only at e102
      obtain ⟨σB2, o1, o2, o3, o4, o5, o6, o7, o8, o9⟩ := l_186 w (e := e) (k := k) (r := r) (x3 := K) (x5 := f - b) (x6 := if g < 0 then -1 else g - b) (x7 := qde σA K f g) (x8 := qbl σA K f g) (v2 := zI word) (v4 := v4) (σ := σB1) (by omega) (by omega) ((n3 _ _ (by omega)).trans e17)
      rw [o1] at e102
      have zz := zno_b6 K
      have FA : ∀ c t, ¬ (c = 78 ∧ 2 ≤ t ∧ t ≤ 5) → c ≠ 84 → (3 ≤ c ∧ c ≤ 8 → t ≠ b + r) → (c = 9 → t < 6 * (b + r) ∨ 6 * (b + r) + 6 ≤ t) → σ4 c t = σA c t := by
        intro c t h1 h2 h3 h4
        rw [f4 _ _ (by omega), ← f1 c t (by omega), ← f2 c t h2]
        by_cases c9 : c = 9
        · rw [c9]; exact mC t (h4 c9)
        · by_cases c3 : 3 ≤ c ∧ c ≤ 8
          · exact mB c t c3.1 c3.2 (h3 c3)
          · exact mA c t (by omega) (by omega)
      have FB : ∀ c t, (c = 209 → t < 12 ∨ (15 < t ∧ t ≠ 17)) → (c = 224 → t < 11 * r) → σB2 c t = σB c t := fun c t h1 h2 => (o9 c t (by omega) (by omega)).trans (n3 c t (by omega))
      have newrow := q_row (b := b) (r := r) (kk := k) (k := K) (p := f) (q := g) (σA := σ2) (σA' := σ3) (σB := σB1) (σB' := σB2) hb.1 hr.1 (by omega) hkr kp2 (by rw [d4, d1]; omega) (by rw [d5, d2]; omega) (zNV_c (fun j x y => g2 j x y) hN) (fun j x y => by rw [g2 j x (by omega), n3 _ _ (by omega)]; exact ag j x y) m2 m3 m4 m5 m6 m7 m8 mB o3 (by rw [o4, if_neg hf0]) o5 (by rw [o6, d4, d1]) (by rw [o7, d5, d2]) o8
      refine Or.inr ⟨ysk n B a + 1, v2', v5', v6', v7', σ4, σB2, qE_c w eC, e102, ⟨?_, ?_, ?_, ?_, ?_, ?_, ?_, o2, fun s s0 s1 => ?_⟩, by omega, by omega, fun c t u1 u2 u3 u4 u5 u6 => FA c t u1 u2 (fun x => by have := u5 x; omega) (fun x => by have := u6 x; omega), fun c t u1 u2 u3 => FB c t u1 u2⟩
      · exact ytC_f (FA _ _ (by omega) (by decide) (fun x => by omega) (fun x => by omega)) (fun t => FA _ _ (by omega) (by decide) (fun x => by omega) (fun x => by omega)) tC
      · rw [f4 _ _ (by omega), mA _ _ (by decide) (by omega), f2 _ _ (by decide), hσ1]; exact zup_t ⟨rfl, rfl, by decide⟩
      · rw [f4 _ _ (by omega), mA _ _ (by decide) (by omega), f2 _ _ (by decide), f1 _ _ (by omega)]; exact e3
      · rw [f4 _ _ (by omega)]; exact m9
      · rw [hσ4]; exact zup_t ⟨rfl, rfl, by decide⟩
      · exact (FA _ _ (by omega) (by decide) (fun x => by omega) (fun x => by omega)).trans e27
      · exact ytk_f (fun t h1 h2 => o9 _ _ (by omega) (by omega)) (fun t => o9 _ _ (by omega) (by omega)) n2
      · by_cases sr : s = r
        · subst sr
          exact ⟨qrA_f (σ := σ3) hb.1 (by omega) (fun a t _ _ _ _ => f4 a t (by omega)) (fun t _ => f4 _ _ (by omega)) newrow.1, qrB_f (σA := σ3) (σB := σB2) hb.1 s0 (fun a t _ _ _ _ => f4 a t (by omega)) (fun t _ => f4 _ _ (by omega)) (fun t _ => rfl) newrow.2⟩
        · obtain ⟨ra, rb⟩ := rows s s0 (by omega)
          exact ⟨qrA_f (σ := σA) hb.1 (by omega) (fun a t x y z v => FA a t (by omega) (by omega) (fun _ => by omega) (fun _ => by omega)) (fun t x => FA _ _ (by omega) (by decide) (fun _ => by omega) (fun _ => by omega)) ra, qrB_f (σA := σA) (σB := σB) hb.1 s0 (fun a t x y z v => FA a t (by omega) (by omega) (fun _ => by omega) (fun _ => by omega)) (fun t x => FA _ _ (by omega) (by decide) (fun _ => by omega) (fun _ => by omega)) (fun t x => FB _ _ (fun _ => by omega) (fun _ => by omega)) rb⟩
  · have c' : ¬ (σB 209 14 = 3 ∧ σB 209 15 = 41) := fun u => c ((qtk_41 tk).1 u)
    rw [if_neg c] at eC
    have e102' : zden w (e + 1) 304 102 [zA 13 32 209, zI k, zI word, zI K, v4, zI (f - b), zI (if g < 0 then -1 else g - b), zU, zU, zU, zU] [] σB = some (-1, σB) := by
      rw [e102]
      by_cases x : σB 209 14 = 3
      · rw [if_pos x, if_neg (fun u => c' ⟨x, u⟩)]; rfl
      · rw [if_neg x]; rfl
    refine Or.inl ⟨zup (zup σA 78 2 (ysk n B a)) 78 3 (ysk n B a), σB, (qE_0 w eC).trans ?_, e102', by rw [tk.2.1]; omega, fun c t u1 u2 u3 u4 u5 u6 => ?_, fun _ _ _ _ _ => rfl⟩
    · rw [zup_t ⟨rfl, rfl, by decide⟩, tk.2.1]
    · rw [zup_f (by omega), zup_f (by omega)]
end
