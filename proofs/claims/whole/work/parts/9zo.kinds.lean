section
/-! Call 35: kinds -/
def ywp (T : Int → Int) (s p : Int) : Int := zwd T 7 s (p / 256) (p / 16 % 16) (p % 16)
def ypb3 (k a b : Int) : Bool := if k = 8 then decide (a ≤ 0 ∨ b ≤ 0) else if k = 9 then decide (a ≤ 0 ∧ b ≤ 0) else decide (a ≤ 0 ∧ 0 ≤ b)
theorem s_199 (w : zW) {d : Nat} (hd : 21 ≤ d) {T : Int → Int} {n s p : Int} {σ : zMem} (hT : zWF T n) (hTb : zTb 2 σ T n) (h : 0 ≤ s ∧ s < n) (hp : 0 ≤ p ∧ p < 4096) :
    ∃ σ', zcall w d 199 [zA 12 16 1, zI s, zI p] σ = some (176, σ') ∧ yA σ' 176 (ywp T s p) ∧ ∀ c k, (c < 174 ∨ 183 < c) → σ' c k = σ c k := by
  obtain ⟨d, rfl⟩ : ∃ e, d = e + 1 := ⟨d - 1, by omega⟩
  obtain ⟨o1, o2, o3⟩ := yon p
  obtain ⟨σ', e, u, f⟩ := s_42 w (d := d) (by omega) (a := 173) (Or.inr rfl) (x := zon p 0) (y := zon p 1) (z := zon p 2) hT h.1 h.2 hTb (by omega) (by omega) (by omega)
  rw [eX11_worthIn, s_209 w (by omega) hp (by decide), Option.bind_some]
  dsimp only
  rw [s_209 w (by omega) hp (by decide), Option.bind_some]
  dsimp only
  rw [s_209 w (by omega) hp (by decide), Option.bind_some]
  dsimp only
  rw [e]
  exact ⟨σ', rfl, u, fun c k h => f c k (by omega)⟩
theorem s_182 (w : zW) {d : Nat} (hd : 22 ≤ d) {T : Int → Int} {n k p q r : Int} {σ : zMem} (hT : zWF T n) (hTb : zTb 2 σ T n) (hp : 0 ≤ p ∧ p < n) (hq : 0 ≤ q ∧ q < n) (hr : 0 ≤ r ∧ r < 4096) :
    ∃ σ', zcall w d 182 [zA 12 16 1, zI k, zI p, zI q, zI r] σ = some (zt (ypb3 k (ywp T p r) (ywp T q r) = true), σ') ∧ ∀ c j, (c < 174 ∨ 183 < c) → σ' c j = σ c j := by
  obtain ⟨d, rfl⟩ : ∃ e, d = e + 1 := ⟨d - 1, by omega⟩
  obtain ⟨σ1, e1, u1, f1⟩ := s_199 w (d := d) (by omega) hT hTb hp hr
  obtain ⟨σ2, e2, u2, f2⟩ := s_199 w (d := d) (by omega) (σ := σ1) hT (zTb_fr (fun a k x y => f1 a k (by omega)) hTb) hq hr
  refine ⟨σ2, ?_, fun c j u => (f2 c j u).trans (f1 c j u)⟩
  rw [eX11_isInPair, e1, Option.bind_some]
  dsimp only
  rw [s_13 w d u1, Option.bind_some]
  dsimp only
  rw [zt_if, ypb3]
  generalize ywp T p r = A at *
  generalize ywp T q r = B at *
  by_cases ca : 0 < A
  · rw [if_pos ca, e2, Option.bind_some]
    dsimp only
    by_cases k8 : k = 8
    · rw [if_pos k8, if_pos k8, s_13 w d u2, Option.bind_some]
      dsimp only
      rw [zt_if]
      by_cases cb : 0 < B
      · rw [if_pos cb, zt_n (by rw [decide_eq_true_eq]; omega)]
      · rw [if_neg cb, zt_p (by rw [decide_eq_true_eq]; omega)]
    · rw [if_neg k8, if_neg k8]
      by_cases k9 : k = 9
      · rw [if_pos k9, if_pos k9, zt_n (by rw [decide_eq_true_eq]; omega)]
      · rw [if_neg k9, if_neg k9, zt_n (by rw [decide_eq_true_eq]; omega)]
  · rw [if_neg ca, e2, Option.bind_some]
    dsimp only
    by_cases k8 : k = 8
    · rw [if_pos k8, if_pos k8, zt_p (by rw [decide_eq_true_eq]; omega)]
    · rw [if_neg k8, if_neg k8]
      by_cases k9 : k = 9
      · rw [if_pos k9, if_pos k9, s_13 w d u2, Option.bind_some]
        dsimp only
        rw [zt_if]
        by_cases cb : 0 < B
        · rw [if_pos cb, zt_n (by rw [decide_eq_true_eq]; omega)]
        · rw [if_neg cb, zt_p (by rw [decide_eq_true_eq]; omega)]
      · rw [if_neg k9, if_neg k9, s_14 w d u2, Option.bind_some]
        dsimp only
        rw [zt_if]
        by_cases cb : B < 0
        · rw [if_pos cb, zt_n (by rw [decide_eq_true_eq]; omega)]
        · rw [if_neg cb, zt_p (by rw [decide_eq_true_eq]; omega)]
theorem s_320 (w : zW) {d : Nat} (hd : 20 ≤ d) {n k p q r : Int} {σ : zMem} (hT : zWF (σ 210) n) (hp : 0 ≤ p ∧ p < n) (hq : 0 ≤ q ∧ q < n) (hr : 0 ≤ r ∧ r < 4096) : zcall w d 320 [zA 13 32 209, zI k, zI p, zI q, zI r] σ = some (zt (ypb3 k (ywp (σ 210) p r) (ywp (σ 210) q r) = true), σ) := by
  obtain ⟨d, rfl⟩ : ∃ e, d = e + 1 := ⟨d - 1, by omega⟩
  have gp := (hT.2.2 p hp.1 hp.2).2
  have gq := (hT.2.2 q hq.1 hq.2).2
  have e1 := s_219 w (n := n) 7 d p (r / 256) (r / 16 % 16) (r % 16) σ hT (by omega) hp.1 hp.2 (by omega) (by omega) (by omega) (by omega)
  have e2 := s_219 w (n := n) 7 d q (r / 256) (r / 16 % 16) (r % 16) σ hT (by omega) hq.1 hq.2 (by omega) (by omega) (by omega) (by omega)
  rw [eX12_isPaired]
  simp only [s_243, s_244 w d hr, s_245 w d hr, e1, e2, Option.bind_some, zcmp_gt, zcmp_lt]
  rw [show zwd (σ 210) 7 p (r / 256) (r / 16 % 16) (r % 16) = ywp (σ 210) p r from rfl, show zwd (σ 210) 7 q (r / 256) (r / 16 % 16) (r % 16) = ywp (σ 210) q r from rfl, ypb3]
  generalize ywp (σ 210) p r = A at *
  generalize ywp (σ 210) q r = B at *
  by_cases k8 : k = 8
  · rw [if_pos k8, if_pos k8, zt]
    simp only [decide_eq_true_eq]
    (repeat' split) <;> first | rfl | (exfalso; omega)
  · rw [if_neg k8, if_neg k8]
    by_cases k9 : k = 9
    · rw [if_pos k9, if_pos k9, zt]
      simp only [decide_eq_true_eq]
      (repeat' split) <;> first | rfl | (exfalso; omega)
    · rw [if_neg k9, if_neg k9, zt]
      simp only [decide_eq_true_eq]
      (repeat' split) <;> first | rfl | (exfalso; omega)
/-- all twos are so -/
def yal (f : Int → Bool) (E : Int → Int) : Nat → Int → Bool
  | 0, _ => true
  | m + 1, i => (f (E (2 * i)) == decide (E (2 * i + 1) = 1)) && yal f E m (i + 1)
theorem l_181 (w : zW) {d : Nat} (hd : 23 ≤ d) {T : Int → Int} {N k p q s n : Int} {E : Int → Int} (hT : zWF T N) (hp : 0 ≤ p ∧ p < N) (hq : 0 ≤ q ∧ q < N) (hs : 0 ≤ s ∧ s < 8) (hn : n ≤ 20) (hE : ∀ i : Int, 0 ≤ i → i < n → ytw E i) : ∀ (m : Nat) (i : Int) (v7 : zV) (σ : zMem), 0 ≤ i → i + m = n → zTb 2 σ T N → 2 * n ≤ σ 76 s → (∀ j : Int, 0 ≤ j → j < 40 → σ 77 (40 * s + j) = E j) →
    ∃ σ', zden w (d + 1) 181 2 [zA 12 16 1, zI k, zI p, zI q, zI s, zI n, zI i, v7] [] σ = some (zt (yal (fun r => ypb3 k (ywp T p r) (ywp T q r)) E m i = true), σ') ∧ ∀ c j, (c < 174 ∨ 183 < c) → σ' c j = σ c j := by
  intro m
  induction m with
  | zero =>
    intro i v7 σ h0 h hTb h76 h77
    rw [hX11_isSoOfPair_2, if_neg (by omega)]
    exact ⟨σ, rfl, fun _ _ _ => rfl⟩
  | succ m ih =>
    intro i v7 σ h0 h hTb h76 h77
    have e1 : zar 0 i 1 = i + 1 := by rw [za_0, zw32_i (by omega)]
    have e2 : zar 2 2 i = 2 * i := by rw [za_2, zw32_i (by omega)]
    have e3 : zar 0 (2 * i) 1 = 2 * i + 1 := by rw [za_0, zw32_i (by omega)]
    obtain ⟨q1, q2⟩ := hE i h0 (by omega)
    have e5 : zar 23 (E (2 * i)) 0 = E (2 * i) := by rw [za_23, zw32_i (by omega)]
    have el : zcall w d 88 [zA 8 3 74, zI s, zI (2 * i + 1)] σ = some (E (2 * i + 1), σ) := by rw [s_88 w (by omega), if_pos ⟨hs, by omega, by omega⟩, h77 _ (by omega) (by omega)]
    have el1 : zcall w d 88 [zA 8 3 74, zI s, zI (2 * i)] σ = some (E (2 * i), σ) := by rw [s_88 w (by omega), if_pos ⟨hs, by omega, by omega⟩, h77 _ (by omega) (by omega)]
    obtain ⟨σ1, j1, j2⟩ := s_182 w (d := d) (by omega) (k := k) hT hTb hp hq (r := E (2 * i)) (by omega)
    have cont : ∀ v7 : zV, ∃ σ', zden w (d + 1) 181 2 [zA 12 16 1, zI k, zI p, zI q, zI s, zI n, zI (i + 1), v7] [] σ1 = some (zt (yal (fun r => ypb3 k (ywp T p r) (ywp T q r)) E m (i + 1) = true), σ') ∧ ∀ c j, (c < 174 ∨ 183 < c) → σ' c j = σ c j := by
      intro v7
      obtain ⟨σ', k1, k2⟩ := ih (i + 1) v7 σ1 (by omega) (by omega) (zTb_fr (fun a k x y => j2 a k (by omega)) hTb) (by rw [j2 _ _ (by omega)]; exact h76) (fun j x y => (j2 _ _ (by omega)).trans (h77 j x y))
      exact ⟨σ', k1, fun c j u => (k2 c j u).trans (j2 c j u)⟩
    rw [hX11_isSoOfPair_2, if_pos (by omega), e1, e2, e3, el, Option.bind_some, yal]
    dsimp only
    rw [zcmp_eq]
    generalize hf : ypb3 k (ywp T p (E (2 * i))) (ywp T q (E (2 * i))) = f at *
    by_cases c1 : E (2 * i + 1) = 1
    · rw [if_pos c1, el1, Option.bind_some]
      dsimp only
      rw [e5, j1, Option.bind_some, decide_eq_true c1]
      dsimp only
      cases f with
      | true =>
        rw [zt_p rfl, if_pos rfl, show (true == true) = true from rfl, Bool.true_and]
        exact cont _
      | false =>
        rw [zt_n (by decide), if_neg (by decide), show (false == true) = false from rfl, Bool.false_and]
        exact ⟨σ1, rfl, j2⟩
    · rw [if_neg c1, el1, Option.bind_some]
      dsimp only
      rw [e5, j1, Option.bind_some, decide_eq_false c1]
      dsimp only
      cases f with
      | true =>
        rw [zt_p rfl, if_neg (by decide), show (true == false) = false from rfl, Bool.false_and]
        exact ⟨σ1, rfl, j2⟩
      | false =>
        rw [zt_n (by decide), if_pos rfl, show (false == false) = true from rfl, Bool.true_and]
        exact cont _
/-- which of the three kinds are so -/
def yk3 (b8 b9 b10 : Bool) : Int := (if b8 = true then 256 else 0) + (if b9 = true then 512 else 0) + (if b10 = true then 1024 else 0)
theorem yor3 (b8 b9 : Bool) : zar 7 0 256 = 256 ∧ zar 7 (if b8 = true then 256 else 0) 512 = (if b8 = true then 256 else 0) + 512 ∧ zar 7 ((if b8 = true then 256 else 0) + (if b9 = true then 512 else 0)) 1024 = (if b8 = true then 256 else 0) + (if b9 = true then 512 else 0) + 1024
    ∧ zar 7 0 0 = 0 ∧ zar 7 (if b8 = true then 256 else 0) 0 = (if b8 = true then 256 else 0) ∧ zar 7 ((if b8 = true then 256 else 0) + (if b9 = true then 512 else 0)) 0 = (if b8 = true then 256 else 0) + (if b9 = true then 512 else 0) := by
  rw [za_7, za_7, za_7, za_7, za_7, za_7]
  cases b8 <;> cases b9 <;> exact ⟨rfl, rfl, rfl, rfl, rfl, rfl⟩
theorem ysh3 : zar 9 1 8 = 256 ∧ zar 9 1 9 = 512 ∧ zar 9 1 10 = 1024 := by
  rw [za_9, za_9, za_9]; exact ⟨rfl, rfl, rfl⟩
theorem l_321 (w : zW) {d : Nat} (hd : 20 ≤ d) {N k p q s n x6 : Int} {E : Int → Int} {σ : zMem} (hT : zWF (σ 210) N) (hp : 0 ≤ p ∧ p < N) (hq : 0 ≤ q ∧ q < N) (hs : 0 ≤ s ∧ s < 8) (hn : n ≤ 20) (hE : ∀ i : Int, 0 ≤ i → i < n → ytw E i) (h228 : ∀ j : Int, 0 ≤ j → j < 40 → σ 228 (40 * s + j) = E j) : ∀ (m : Nat) (i : Int) (b : Bool) (v5 : zV), 0 ≤ i → i + m = n →
    ∃ x8 x9, zden w (d + 1) 321 43 [zA 13 32 209, zI p, zI q, zI s, zI n, v5, zI x6, zI k, zI (zt (b = true)), zI i] [] σ = zden w (d + 1) 321 36 [zA 13 32 209, zI p, zI q, zI s, zI n, (zlng 0 v5), zI (zar 7 x6 (if (b && yal (fun r => ypb3 k (ywp (σ 210) p r) (ywp (σ 210) q r)) E m i) = true then zar 9 1 k else 0)), zI (zar 0 k 1), zI x8, zI x9] [] σ := by
  intro m
  induction m with
  | zero =>
    intro i b v5 h0 h
    refine ⟨zt (b = true), i, ?_⟩
    rw [hX12_kinds_43, if_neg (by omega), zt_if, yal, Bool.and_true]
    cases b
    · rw [if_neg (by decide), if_neg (by decide)]
    · rw [if_pos rfl, if_pos rfl]
  | succ m ih =>
    intro i b v5 h0 h
    have e1 : zar 0 i 1 = i + 1 := by rw [za_0, zw32_i (by omega)]
    have e2 : zar 2 2 i = 2 * i := by rw [za_2, zw32_i (by omega)]
    have e4 : zar 0 (zar 2 40 s) (2 * i) = 40 * s + 2 * i := by rw [za_2, zw32_i (by omega), za_0, zw32_i (by omega)]
    have e5 : zar 0 (40 * s + 2 * i) 1 = 40 * s + (2 * i + 1) := by rw [za_0, zw32_i (by omega)]; omega
    obtain ⟨q1, q2⟩ := hE i h0 (by omega)
    have e6 : zar 23 (E (2 * i)) 0 = E (2 * i) := by rw [za_23, zw32_i (by omega)]
    have a1 : ∀ b : Bool, zar 6 (zt (b = true)) 1 = zt (b = true) ∧ zar 6 (zt (b = true)) 0 = zt (false = true) := by
      intro b
      rw [za_6, za_6]
      cases b <;> exact ⟨rfl, rfl⟩
    rw [hX12_kinds_43, if_pos (by omega), e1, e2, e4, if_pos (by omega), h228 _ (by omega) (by omega), e6, s_320 w hd hT hp hq (by omega), Option.bind_some, yal]
    dsimp only
    rw [e5, if_pos (by omega)]
    simp only [h228 _ (show (0 : Int) ≤ 2 * i + 1 by omega) (show 2 * i + 1 < 40 by omega), zcmp_eq]
    rw [(a1 b).1, (a1 b).2]
    generalize ypb3 k (ywp (σ 210) p (E (2 * i))) (ywp (σ 210) q (E (2 * i))) = f at *
    by_cases c1 : E (2 * i + 1) = 1
    · rw [if_pos c1, decide_eq_true c1]
      cases f with
      | true =>
        obtain ⟨x8, x9, e⟩ := ih (i + 1) b v5 (by omega) (by omega)
        refine ⟨x8, x9, ?_⟩
        rw [zt_p (P := true = true) rfl, if_pos rfl, e, show (true == true) = true from rfl, Bool.true_and]
      | false =>
        obtain ⟨x8, x9, e⟩ := ih (i + 1) false v5 (by omega) (by omega)
        refine ⟨x8, x9, ?_⟩
        rw [if_neg (by decide), e, show (false == true) = false from rfl, Bool.false_and, Bool.and_false]
    · rw [if_neg c1, decide_eq_false c1]
      cases f with
      | true =>
        obtain ⟨x8, x9, e⟩ := ih (i + 1) false v5 (by omega) (by omega)
        refine ⟨x8, x9, ?_⟩
        rw [if_neg (by decide), e, show (true == false) = false from rfl, Bool.false_and, Bool.and_false]
      | false =>
        obtain ⟨x8, x9, e⟩ := ih (i + 1) b v5 (by omega) (by omega)
        refine ⟨x8, x9, ?_⟩
        rw [if_pos (by decide), e, show (false == false) = true from rfl, Bool.true_and]
theorem op_35 (w : zW) (x1 x2 x3 x4 : Int) : zOp zInv w 180 321 [zI x1, zI x2, zI x3, zI x4] := by
  intro σ hI
  by_cases h : (0 ≤ x1 ∧ x1 < σ 209 1) ∧ (0 ≤ x2 ∧ x2 < σ 209 1) ∧ (0 ≤ x3 ∧ x3 < 8) ∧ (0 ≤ x4 ∧ x4 ≤ 20)
  · obtain ⟨h1, h2, h3, h4⟩ := h
    obtain ⟨R, t1, t2, t3, t4⟩ := ytold w hI h3 h4
    have hA := eX11_kinds w 998 x1 x2 x3 x4 σ
    rw [yA1 w hI, Option.bind_some] at hA
    dsimp only at hA
    rw [zt_if, if_pos h1, yA1 w hI, Option.bind_some] at hA
    dsimp only at hA
    rw [zt_if, if_pos h2, s_201, Option.bind_some] at hA
    dsimp only at hA
    rw [zt_if, if_pos h3, s_200, Option.bind_some] at hA
    dsimp only at hA
    rw [zt_if, if_pos h4, t1, Option.bind_some] at hA
    dsimp only at hA
    have hB : ∀ σ' : zMem, σ' 209 1 = σ 209 1 → (∀ a k, a = 226 ∨ a = 227 ∨ a = 228 → σ' a k = σ a k) → zcall w 999 321 [zA 13 32 209, zI x1, zI x2, zI x3, zI x4] σ' = if R < 0 then (zcall w 998 214 [zA 13 32 209, zI R] σ').bind fun r8 => some (r8.1, r8.2) else zden w 999 321 36 [zA 13 32 209, zI x1, zI x2, zI x3, zI x4, zI R, zI 0, zI 8, zU, zU] [] σ' := by
      intro σ' a c
      have a' : 0 ≤ σ' 209 1 ∧ σ' 209 1 ≤ 24 := by rw [a]; exact ⟨hI.2.1.1.1, hI.2.1.1.2.1⟩
      refine (eX12_kinds w 998 x1 x2 x3 x4 σ').trans ?_
      rw [s_218 w (by decide) x1 a', Option.bind_some]
      dsimp only
      rw [zt_if, a, if_pos h1, s_218 w (by decide) x2 a', Option.bind_some]
      dsimp only
      rw [zt_if, a, if_pos h2, s_307 w (by decide), Option.bind_some]
      dsimp only
      rw [zt_if, if_pos h3, s_213, Option.bind_some]
      dsimp only
      rw [zt_if, if_pos h4, t2 σ' c, Option.bind_some]
    rcases t3 with rfl | t3
    · obtain ⟨u1, u2, u3⟩ := t4 rfl
      have g := hI.2.2.2.2.2.1 x3 h3.1 h3.2
      obtain ⟨g8, g9, g10⟩ := ysh3
      have z8 : zar 0 8 1 = 9 := by rw [za_0, zw32_i (by decide)]; rfl
      have z9 : zar 0 9 1 = 10 := by rw [za_0, zw32_i (by decide)]; rfl
      have z10 : zar 0 10 1 = 11 := by rw [za_0, zw32_i (by decide)]; rfl
      rw [if_pos rfl] at hA
      have one : ∀ (k : Int) (σ0 : zMem), (∀ c j, (c < 174 ∨ 183 < c) → σ0 c j = σ c j) → ∃ σ', zcall w 998 181 [zA 12 16 1, zI k, zI x1, zI x2, zI x3, zI x4] σ0 = some (zt (yal (fun r => ypb3 k (ywp (σ 210) x1 r) (ywp (σ 210) x2 r)) (fun j => σ 228 (40 * x3 + j)) x4.toNat 0 = true), σ') ∧ ∀ c j, (c < 174 ∨ 183 < c) → σ' c j = σ c j := by
        intro k σ0 f0
        obtain ⟨σ', k1, k2⟩ := l_181 w (d := 997) (by decide) (k := k) (p := x1) (q := x2) (s := x3) (n := x4) (E := fun j => σ 228 (40 * x3 + j)) hI.2.1.1 h1 h2 h3 h4.2 u3 x4.toNat 0 zU σ0 (by decide) (by omega) (zTb_fr (fun a k x y => f0 a k (by omega)) hI.2.1.2) (by rw [f0 _ _ (by omega)]; exact u1) (fun j x y => (f0 _ _ (by omega)).trans (g.2.2 j x y))
        exact ⟨σ', (eX11_isSoOfPair w 997 k x1 x2 x3 x4 σ0).trans k1, fun c j u => (k2 c j u).trans (f0 c j u)⟩
      obtain ⟨σ1, a1, f1⟩ := one 8 σ (fun _ _ _ => rfl)
      obtain ⟨σ2, a2, f2⟩ := one 9 σ1 f1
      obtain ⟨σ3, a3, f3⟩ := one 10 σ2 f2
      have I3 : zInv σ3 := zalk_I hI (zalk_s fun a k _ _ _ u _ => f3 a k (by omega))
      have T3 : σ3 210 = σ 210 := funext fun k => f3 _ _ (by decide)
      have two := fun (k x6 : Int) (v5 : zV) => l_321 w (d := 998) (by decide) (σ := σ3) (k := k) (x6 := x6) (p := x1) (q := x2) (s := x3) (n := x4) (E := fun j => σ 228 (40 * x3 + j)) (N := σ 209 1) (by rw [T3]; exact hI.2.1.1) h1 h2 h3 h4.2 u3 (fun j x y => f3 _ _ (by decide)) x4.toNat 0 true v5 (by decide) (by omega)
      rw [T3] at two
      generalize hb8 : yal (fun r => ypb3 8 (ywp (σ 210) x1 r) (ywp (σ 210) x2 r)) (fun j => σ 228 (40 * x3 + j)) x4.toNat 0 = b8 at *
      generalize hb9 : yal (fun r => ypb3 9 (ywp (σ 210) x1 r) (ywp (σ 210) x2 r)) (fun j => σ 228 (40 * x3 + j)) x4.toNat 0 = b9 at *
      generalize hb10 : yal (fun r => ypb3 10 (ywp (σ 210) x1 r) (ywp (σ 210) x2 r)) (fun j => σ 228 (40 * x3 + j)) x4.toNat 0 = b10 at *
      obtain ⟨y1, y2, y3, y4, y5, y6⟩ := yor3 b8 b9
      have stA : ∀ (k x6 : Int) (b : Bool) (σa σb : zMem) (v5 : zV), k ≤ 10 → 8 ≤ k → zcall w 998 181 [zA 12 16 1, zI k, zI x1, zI x2, zI x3, zI x4] σa = some (zt (b = true), σb) → ∃ v5', zden w 999 180 35 [zA 12 16 1, zI x1, zI x2, zI x3, zI x4, v5, zI x6, zI k] [] σa = zden w 999 180 35 [zA 12 16 1, zI x1, zI x2, zI x3, zI x4, v5', zI (if b = true then zar 7 x6 (zar 9 1 k) else x6), zI (k + 1)] [] σb := by
        intro k x6 b σa σb v5 hk hk8 e
        have ek : zar 0 k 1 = k + 1 := by rw [za_0, zw32_i (by omega)]
        by_cases c : b = true
        · refine ⟨zlng 0 v5, (hX11_kinds_35 w 998 x1 x2 x3 x4 x6 k v5 σa).trans ?_⟩
          rw [if_neg (by omega), e, Option.bind_some]
          dsimp only
          rw [zt_if, if_pos c, if_pos c, ek]
        · refine ⟨v5, (hX11_kinds_35 w 998 x1 x2 x3 x4 x6 k v5 σa).trans ?_⟩
          rw [if_neg (by omega), e, Option.bind_some]
          dsimp only
          rw [zt_if, if_neg c, if_neg c, ek]
      obtain ⟨v1, s1⟩ := stA 8 0 b8 σ σ1 (zI 0) (by decide) (by decide) a1
      obtain ⟨v2, s2⟩ := stA 9 (if b8 = true then 256 else 0) b9 σ1 σ2 v1 (by decide) (by decide) a2
      obtain ⟨v3, s3⟩ := stA 10 ((if b8 = true then 256 else 0) + (if b9 = true then 512 else 0)) b10 σ2 σ3 v2 (by decide) (by decide) a3
      have X1 : (if b8 = true then zar 7 0 (zar 9 1 8) else 0) = if b8 = true then 256 else 0 := by rw [g8, y1]
      have X2 : (if b9 = true then zar 7 (if b8 = true then 256 else 0) (zar 9 1 9) else if b8 = true then 256 else 0) = (if b8 = true then 256 else 0) + (if b9 = true then 512 else 0) := by
        rw [g9, y2]
        by_cases c : b9 = true
        · rw [if_pos c, if_pos c]
        · rw [if_neg c, if_neg c]; omega
      have X3 : (if b10 = true then zar 7 ((if b8 = true then 256 else 0) + (if b9 = true then 512 else 0)) (zar 9 1 10) else (if b8 = true then 256 else 0) + (if b9 = true then 512 else 0)) = yk3 b8 b9 b10 := by
        rw [g10, y3, yk3]
        by_cases c : b10 = true
        · rw [if_pos c, if_pos c]
        · rw [if_neg c, if_neg c]; omega
      have s4 := hX11_kinds_35 w 998 x1 x2 x3 x4 (yk3 b8 b9 b10) 11 v3 σ3
      rw [if_pos (by decide)] at s4
      rw [X1, show (8 : Int) + 1 = 9 from rfl] at s1
      rw [X2, show (9 : Int) + 1 = 10 from rfl] at s2
      rw [X3, show (10 : Int) + 1 = 11 from rfl] at s3
      have eA := hA.trans (s1.trans (s2.trans (s3.trans s4)))
      have stB : ∀ (k x6 : Int) (b : Bool) (v5 v8 v9 : zV), k ≤ 10 → 8 ≤ k → yal (fun r => ypb3 k (ywp (σ 210) x1 r) (ywp (σ 210) x2 r)) (fun j => σ 228 (40 * x3 + j)) x4.toNat 0 = b → ∃ v5' v8' v9', zden w 999 321 36 [zA 13 32 209, zI x1, zI x2, zI x3, zI x4, v5, zI x6, zI k, v8, v9] [] σ3 = zden w 999 321 36 [zA 13 32 209, zI x1, zI x2, zI x3, zI x4, v5', zI (zar 7 x6 (if b = true then zar 9 1 k else 0)), zI (k + 1), v8', v9'] [] σ3 := by
        intro k x6 b v5 v8 v9 hk hk8 e
        have ek : zar 0 k 1 = k + 1 := by rw [za_0, zw32_i (by omega)]
        obtain ⟨x8, x9, q⟩ := two k x6 v5
        rw [e, Bool.true_and, ek] at q
        refine ⟨zlng 0 v5, zI x8, zI x9, (hX12_kinds_36 w 998 x1 x2 x3 x4 x6 k v5 v8 v9 σ3).trans ?_⟩
        rw [if_neg (by omega)]
        exact q
      obtain ⟨p1, p2, p3, r1⟩ := stB 8 0 b8 (zI 0) zU zU (by decide) (by decide) hb8
      obtain ⟨p4, p5, p6, r2⟩ := stB 9 (if b8 = true then 256 else 0) b9 p1 p2 p3 (by decide) (by decide) hb9
      obtain ⟨p7, p8, p9, r3⟩ := stB 10 ((if b8 = true then 256 else 0) + (if b9 = true then 512 else 0)) b10 p4 p5 p6 (by decide) (by decide) hb10
      have Y1 : zar 7 0 (if b8 = true then zar 9 1 8 else 0) = if b8 = true then 256 else 0 := by
        rw [g8]
        by_cases c : b8 = true
        · simp only [if_pos c]; exact y1
        · simp only [if_neg c]; exact y4
      have Y2 : zar 7 (if b8 = true then 256 else 0) (if b9 = true then zar 9 1 9 else 0) = (if b8 = true then 256 else 0) + (if b9 = true then 512 else 0) := by
        rw [g9]
        by_cases c : b9 = true
        · simp only [if_pos c]; exact y2
        · simp only [if_neg c]; rw [y5]; omega
      have Y3 : zar 7 ((if b8 = true then 256 else 0) + (if b9 = true then 512 else 0)) (if b10 = true then zar 9 1 10 else 0) = yk3 b8 b9 b10 := by
        rw [g10, yk3]
        by_cases c : b10 = true
        · simp only [if_pos c]; exact y3
        · simp only [if_neg c]; rw [y6]; omega
      rw [Y1, show (8 : Int) + 1 = 9 from rfl] at r1
      rw [Y2, show (9 : Int) + 1 = 10 from rfl] at r2
      rw [Y3, show (10 : Int) + 1 = 11 from rfl] at r3
      have r4 := hX12_kinds_36 w 998 x1 x2 x3 x4 (yk3 b8 b9 b10) 11 p7 p8 p9 σ3
      rw [if_pos (by decide)] at r4
      refine ⟨_, σ3, σ3, eA, ?_, I3⟩
      rw [hB σ3 (f3 _ _ (by decide)) (fun a k u => f3 _ _ (by omega)), if_neg (by decide)]
      exact r1.trans (r2.trans (r3.trans r4))
    · rw [if_neg (by omega), s_194 w 998 t3] at hA
      refine yop R (zrA σ R) (zrB (zrA σ R) R) hA ?_ (zref0 hI)
      rw [hB (zrA σ R) (zup_f (by omega)) (fun a k u => zup_f (by omega)), if_pos (by omega), s_214 w 998 t3]
      rfl
  · refine yop (-62) (zrA σ (-62)) (zrB (zrA σ (-62)) (-62)) ((eX11_kinds w 998 x1 x2 x3 x4 σ).trans ?_) ((eX12_kinds w 998 x1 x2 x3 x4 _).trans ?_) (zref0 hI)
    · rw [yA1 w hI, Option.bind_some]
      dsimp only
      rw [zt_if]
      by_cases u0 : 0 ≤ x1 ∧ x1 < σ 209 1
      · rw [if_pos (by omega)]
        rw [yA1 w hI, Option.bind_some]
        dsimp only
        rw [zt_if]
        by_cases u1 : 0 ≤ x2 ∧ x2 < σ 209 1
        · rw [if_pos (by omega)]
          rw [s_201, Option.bind_some]
          dsimp only
          rw [zt_if]
          by_cases u2 : 0 ≤ x3 ∧ x3 < 8
          · rw [if_pos (by omega)]
            rw [s_200, Option.bind_some]
            dsimp only
            rw [zt_if]
            rw [if_neg (fun u => h ⟨u0, u1, u2, (by omega)⟩)]
            exact ybA w σ
          · rw [if_neg (by omega)]; exact ybA w σ
        · rw [if_neg (by omega)]; exact ybA w σ
      · rw [if_neg (by omega)]; exact ybA w σ
    · rw [yB1' w hI, Option.bind_some]
      dsimp only
      rw [zt_if]
      by_cases u0 : 0 ≤ x1 ∧ x1 < σ 209 1
      · rw [if_pos (by omega)]
        rw [yB1' w hI, Option.bind_some]
        dsimp only
        rw [zt_if]
        by_cases u1 : 0 ≤ x2 ∧ x2 < σ 209 1
        · rw [if_pos (by omega)]
          rw [s_307 w (by decide), Option.bind_some]
          dsimp only
          rw [zt_if]
          by_cases u2 : 0 ≤ x3 ∧ x3 < 8
          · rw [if_pos (by omega)]
            rw [s_213, Option.bind_some]
            dsimp only
            rw [zt_if]
            rw [if_neg (fun u => h ⟨u0, u1, u2, (by omega)⟩)]
            exact ybB w _
          · rw [if_neg (by omega)]; exact ybB w _
        · rw [if_neg (by omega)]; exact ybB w _
      · rw [if_neg (by omega)]; exact ybB w _
end
