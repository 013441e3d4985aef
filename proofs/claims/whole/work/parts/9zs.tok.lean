section
/-! Call 9, shape: the tape, its blanks, words, numbers -/
/-- a tape of n bytes -/
def ytB (n : Int) (B : Int → Int) : Prop := 0 ≤ n ∧ n ≤ 250 ∧ (∀ i : Int, ¬ (0 ≤ i ∧ i < n) → B i = -1) ∧ ∀ i : Int, 0 ≤ i → i < n → 0 ≤ B i ∧ B i ≤ 255
def ytC (σ : zMem) (n : Int) (B : Int → Int) : Prop := σ 78 1 = n ∧ ∀ i : Int, 0 ≤ i → i < n → σ 79 i = B i
def ytR (σ : zMem) (n : Int) (B : Int → Int) : Prop := σ 209 11 = n ∧ ∀ i : Int, 0 ≤ i → i < n → σ 223 i = B i
theorem s_74 (w : zW) (d : Nat) {n : Int} {B : Int → Int} {σ : zMem} (hB : ytB n B) (t : ytC σ n B) (x : Int) : zcall w d 74 [zA 7 11 78, zI x] σ = some (B x, σ) := by
  obtain ⟨h0, h1, h2, -⟩ := hB
  obtain ⟨t1, t2⟩ := t
  rw [eX6_byteAt, t1]
  by_cases c : x < 0
  · rw [if_pos c, h2 x (by omega)]
  · rw [if_neg c]
    by_cases c2 : x < n
    · rw [if_pos c2, if_pos (by omega), if_pos (by omega), t2 x (by omega) c2]
    · rw [if_neg c2, h2 x (by omega)]
theorem s_298 (w : zW) (d : Nat) {n : Int} {B : Int → Int} {σ : zMem} (hB : ytB n B) (t : ytR σ n B) {x : Int} (h : 0 ≤ x) : zcall w d 298 [zA 13 32 209, zI x] σ = some (B x, σ) := by
  obtain ⟨h0, h1, h2, -⟩ := hB
  obtain ⟨t1, t2⟩ := t
  rw [eX12_byteAt, t1]
  by_cases c2 : x < n
  · rw [if_pos c2, if_pos (by omega), t2 x (by omega) c2]
  · rw [if_neg c2, h2 x (by omega)]
def yrun (p : Int → Bool) (B : Int → Int) : Nat → Int → Int
  | 0, a => a
  | m + 1, a => if p (B a) = true then yrun p B m (a + 1) else a
/-- where what is so ends -/
def ysc (p : Int → Bool) (n : Int) (B : Int → Int) (a : Int) : Int := yrun p B (n - a).toNat a
theorem ysc_f {p : Int → Bool} {n : Int} {B : Int → Int} {a : Int} (h : ¬ p (B a) = true) : ysc p n B a = a := by
  unfold ysc
  generalize (n - a).toNat = m
  cases m with
  | zero => rfl
  | succ m => rw [yrun, if_neg h]
theorem ysc_lt {p : Int → Bool} {n : Int} {B : Int → Int} {a : Int} (hB : ytB n B) (hp : p (-1) = false) (h : p (B a) = true) : 0 ≤ a ∧ a < n := by
  apply Classical.byContradiction
  intro c
  rw [hB.2.2.1 a c, hp] at h
  cases h
theorem ysc_t {p : Int → Bool} {n : Int} {B : Int → Int} {a : Int} (hB : ytB n B) (hp : p (-1) = false) (h : p (B a) = true) : ysc p n B a = ysc p n B (a + 1) := by
  have := ysc_lt hB hp h
  unfold ysc
  rw [show (n - a).toNat = (n - (a + 1)).toNat + 1 by omega, yrun, if_pos h]
theorem ysc_b {p : Int → Bool} {n : Int} {B : Int → Int} (hB : ytB n B) (hp : p (-1) = false) : ∀ (m : Nat) (a : Int), (n - a).toNat = m → a ≤ ysc p n B a ∧ ysc p n B a ≤ max a n ∧ ¬ p (B (ysc p n B a)) = true ∧ ∀ i, a ≤ i → i < ysc p n B a → p (B i) = true := by
  intro m
  induction m with
  | zero =>
    intro a h
    have c : ¬ p (B a) = true := fun u => by have := ysc_lt hB hp u; omega
    rw [ysc_f c]
    exact ⟨by omega, by omega, c, fun i x y => by omega⟩
  | succ m ih =>
    intro a h
    by_cases c : p (B a) = true
    · have := ysc_lt hB hp c
      obtain ⟨i1, i2, i3, i4⟩ := ih (a + 1) (by omega)
      rw [ysc_t hB hp c]
      refine ⟨by omega, by omega, i3, fun i x y => ?_⟩
      by_cases e : i = a
      · rw [e]; exact c
      · exact i4 i (by omega) y
    · rw [ysc_f c]
      exact ⟨by omega, by omega, c, fun i x y => by omega⟩
def pbl (c : Int) : Bool := decide (c = 32)
def plt (c : Int) : Bool := decide (97 ≤ c ∧ c ≤ 122)
def pdg (c : Int) : Bool := decide (48 ≤ c ∧ c ≤ 57)
theorem pbl_0 : pbl (-1) = false := by decide
theorem plt_0 : plt (-1) = false := by decide
theorem pdg_0 : pdg (-1) = false := by decide
theorem pbl_i {c : Int} : pbl c = true ↔ c = 32 := by unfold pbl; rw [decide_eq_true_eq]
theorem plt_i {c : Int} : plt c = true ↔ 97 ≤ c ∧ c ≤ 122 := by unfold plt; rw [decide_eq_true_eq]
theorem pdg_i {c : Int} : pdg c = true ↔ 48 ≤ c ∧ c ≤ 57 := by unfold pdg; rw [decide_eq_true_eq]
/-- behind blanks -/
abbrev ysk (n : Int) (B : Int → Int) (a : Int) : Int := ysc pbl n B a
theorem ysk_b {n : Int} {B : Int → Int} (hB : ytB n B) {a : Int} (h : a ≤ n) : a ≤ ysk n B a ∧ ysk n B a ≤ n ∧ B (ysk n B a) ≠ 32 := by
  obtain ⟨i1, i2, i3, -⟩ := ysc_b hB pbl_0 _ a rfl
  have : ysk n B a = ysc pbl n B a := rfl
  exact ⟨i1, by omega, fun u => i3 (pbl_i.2 u)⟩
theorem zup_2 {σ : zMem} {a k v v' : Int} (h : a ≠ 0) : zup (zup σ a k v) a k v' = zup σ a k v' := by
  funext c j
  by_cases e : c = a ∧ j = k
  · rw [zup_t ⟨e.1, e.2, h⟩, zup_t ⟨e.1, e.2, h⟩]
  · rw [zup_f (by omega), zup_f (by omega), zup_f (by omega)]
theorem zup_v {σ : zMem} {a k v : Int} (h : σ a k = v) : zup σ a k v = σ := by rw [← h]; exact zup_same
theorem ytC_u {σ : zMem} {n : Int} {B : Int → Int} {a k v : Int} (h : a ≠ 79) (g : a ≠ 78 ∨ k ≠ 1) (t : ytC σ n B) : ytC (zup σ a k v) n B := ⟨(zup_f (by omega)).trans t.1, fun i x y => (zup_f (by omega)).trans (t.2 i x y)⟩
theorem ytC_f {σ σ' : zMem} {n : Int} {B : Int → Int} (h : σ' 78 1 = σ 78 1) (g : ∀ k, σ' 79 k = σ 79 k) (t : ytC σ n B) : ytC σ' n B := ⟨h.trans t.1, fun i x y => (g i).trans (t.2 i x y)⟩
theorem ytR_f {σ σ' : zMem} {n : Int} {B : Int → Int} (h : σ' 209 11 = σ 209 11) (g : ∀ k, σ' 223 k = σ 223 k) (t : ytR σ n B) : ytR σ' n B := ⟨h.trans t.1, fun i x y => (g i).trans (t.2 i x y)⟩
theorem l_75 (w : zW) (d : Nat) {n : Int} {B : Int → Int} (hB : ytB n B) : ∀ (m : Nat) (a : Int) (σ : zMem), (n - a).toNat = m → 0 ≤ a → ytC σ n B → σ 78 2 = a → zden w (d + 1) 75 3 [zA 7 11 78, zI a] [] σ = some (0, zup σ 78 2 (ysk n B a)) := by
  intro m
  induction m with
  | zero =>
    intro a σ h h0 t e
    have c : ¬ pbl (B a) = true := fun u => by have := ysc_lt hB pbl_0 u; omega
    rw [hX6_skipBlanks_3, t.1, if_neg (by omega), show ysk n B a = a from ysc_f c, zup_v e]
  | succ m ih =>
    intro a σ h h0 t e
    have hn := hB.2.1
    rw [hX6_skipBlanks_3, t.1, if_pos (by omega), s_74 w d hB t, Option.bind_some]
    dsimp only
    by_cases c : B a = 32
    · have e1 : zar 0 a 1 = a + 1 := by rw [za_0, zw32_i (by omega)]
      rw [if_pos c, e1, ih (a + 1) _ (by omega) (by omega) (ytC_u (by decide) (Or.inr (by decide)) t) (zup_t ⟨rfl, rfl, by decide⟩), zup_2 (by decide), show ysk n B a = ysk n B (a + 1) from ysc_t hB pbl_0 (pbl_i.2 c)]
    · rw [if_neg c, show ysk n B a = a from ysc_f (fun u => c (pbl_i.1 u)), zup_v e]
theorem s_75 (w : zW) {d : Nat} (hd : 1 ≤ d) {n a : Int} {B : Int → Int} {σ : zMem} (hB : ytB n B) (t : ytC σ n B) (e : σ 78 2 = a) (h : 0 ≤ a) : zcall w d 75 [zA 7 11 78] σ = some (0, zup σ 78 2 (ysk n B a)) := by
  obtain ⟨d, rfl⟩ : ∃ e, d = e + 1 := ⟨d - 1, by omega⟩
  rw [eX6_skipBlanks, e]
  exact l_75 w d hB _ a σ rfl h t e
theorem s_76 (w : zW) {d : Nat} (hd : 2 ≤ d) {n a c : Int} {B : Int → Int} {σ : zMem} (hB : ytB n B) (t : ytC σ n B) (e : σ 78 2 = a) (h : 0 ≤ a ∧ a ≤ n) : zcall w d 76 [zA 7 11 78, zI c] σ = some (if B (ysk n B a) = c then (1, zup σ 78 2 (ysk n B a + 1)) else (0, zup (zup σ 78 2 (ysk n B a)) 78 3 (ysk n B a))) := by
  obtain ⟨d, rfl⟩ : ∃ e, d = e + 1 := ⟨d - 1, by omega⟩
  have b := ysk_b hB h.2
  have hn := hB.2.1
  have g2 : zup σ 78 2 (ysk n B a) 78 2 = ysk n B a := zup_t ⟨rfl, rfl, by decide⟩
  have e1 : zar 0 (ysk n B a) 1 = ysk n B a + 1 := by rw [za_0, zw32_i (by omega)]
  rw [eX6_readSign, s_75 w (by omega) hB t e h.1, Option.bind_some]
  dsimp only
  rw [g2, s_74 w d hB (ytC_u (by decide) (Or.inr (by decide)) t), Option.bind_some]
  dsimp only
  by_cases q : B (ysk n B a) = c
  · rw [if_pos q, if_pos q, g2, e1, zup_2 (by decide)]
  · rw [if_neg q, if_neg q, g2, eX6_isFault, Option.bind_some]
    rfl
/-- a word of the programs' own -/
def ywst (w : zW) (a : Int) (L : List Int) : Prop := (∀ (d : Nat) (σ : zMem), 1 ≤ d → zcall w d 345 [zA 40 0 a] σ = some ((L.length : Int), σ)) ∧ ∀ (d : Nat) (σ : zMem) (i : Nat), 3 ≤ d → i < L.length → zcall w d 346 [zA 40 0 a, zI (i : Int)] σ = some (L.getD i 0, σ)
theorem ywst_i (w : zW) {a b : Int} {L : List Int} (h0 : zR w a 0 = b) (h1 : zR w a 1 = 0) (hl : zR w b (-1) = L.length) (hs : L.length < 16) (hc : ∀ i : Nat, i < L.length → zR w b i = L.getD i 0 ∧ zar 26 (zar 6 (L.getD i 0) 255) 0 = L.getD i 0 ∧ 0 ≤ L.getD i 0 ∧ L.getD i 0 ≤ 65535) : ywst w a L := by
  refine ⟨fun d σ hd => ?_, fun d σ i hd hi => ?_⟩
  · obtain ⟨d, rfl⟩ : ∃ e, d = e + 1 := ⟨d - 1, by omega⟩
    rw [eJ0_length_8abf5, eJ0_coder_7d493, h1, if_pos (by decide), Option.bind_some, h0, hl]
    have : zar 10 (L.length : Int) 0 = L.length := by
      generalize L.length = u at *
      have : ∀ v : Nat, v < 16 → zar 10 (v : Int) 0 = v := by
        intro v hv
        rw [za_10]
        have : v = 0 ∨ v = 1 ∨ v = 2 ∨ v = 3 ∨ v = 4 ∨ v = 5 ∨ v = 6 ∨ v = 7 ∨ v = 8 ∨ v = 9 ∨ v = 10 ∨ v = 11 ∨ v = 12 ∨ v = 13 ∨ v = 14 ∨ v = 15 := by omega
        rcases this with rfl | rfl | rfl | rfl | rfl | rfl | rfl | rfl | rfl | rfl | rfl | rfl | rfl | rfl | rfl | rfl <;> decide +kernel
      exact this u hs
    rw [this]
  · obtain ⟨d, rfl⟩ : ∃ e, d = e + 1 + 1 + 1 := ⟨d - 3, by omega⟩
    obtain ⟨c1, c2, c3⟩ := hc i hi
    rw [eJ0_charAt_5068e, eJ0_isLatin1_aae02, h1, if_pos rfl, Option.bind_some]
    dsimp only
    rw [if_neg (by decide), h0, eJ1_charAt_3b067, hl, eJ0_checkIndex_df160, eJ3_checkIndex_8e157, if_neg (by omega), if_pos (by omega), Option.bind_some, Option.bind_some]
    dsimp only
    rw [if_pos (by omega), c1, c2, if_pos c3, Option.bind_some]
    dsimp only
    rw [if_pos c3]
def yw0 : List Int := [98, 97, 108, 108]
theorem ywst_0 (w : zW) : ywst w (-11) yw0 := by
  refine ywst_i w rfl rfl rfl (by decide) (fun i hi => ?_)
  have hi : i < 4 := hi
  have : i = 0 ∨ i = 1 ∨ i = 2 ∨ i = 3 := by omega
  rcases this with rfl | rfl | rfl | rfl <;> exact ⟨rfl, by rw [za_6, za_26]; decide +kernel, by decide, by decide⟩
def yw1 : List Int := [98, 111, 120]
theorem ywst_1 (w : zW) : ywst w (-13) yw1 := by
  refine ywst_i w rfl rfl rfl (by decide) (fun i hi => ?_)
  have hi : i < 3 := hi
  have : i = 0 ∨ i = 1 ∨ i = 2 := by omega
  rcases this with rfl | rfl | rfl <;> exact ⟨rfl, by rw [za_6, za_26]; decide +kernel, by decide, by decide⟩
def yw2 : List Int := [104, 97, 108, 102]
theorem ywst_2 (w : zW) : ywst w (-17) yw2 := by
  refine ywst_i w rfl rfl rfl (by decide) (fun i hi => ?_)
  have hi : i < 4 := hi
  have : i = 0 ∨ i = 1 ∨ i = 2 ∨ i = 3 := by omega
  rcases this with rfl | rfl | rfl | rfl <;> exact ⟨rfl, by rw [za_6, za_26]; decide +kernel, by decide, by decide⟩
def yw3 : List Int := [117, 110, 105, 111, 110]
theorem ywst_3 (w : zW) : ywst w (-23) yw3 := by
  refine ywst_i w rfl rfl rfl (by decide) (fun i hi => ?_)
  have hi : i < 5 := hi
  have : i = 0 ∨ i = 1 ∨ i = 2 ∨ i = 3 ∨ i = 4 := by omega
  rcases this with rfl | rfl | rfl | rfl | rfl <;> exact ⟨rfl, by rw [za_6, za_26]; decide +kernel, by decide, by decide⟩
def yw4 : List Int := [99, 111, 109, 109, 111, 110]
theorem ywst_4 (w : zW) : ywst w (-14) yw4 := by
  refine ywst_i w rfl rfl rfl (by decide) (fun i hi => ?_)
  have hi : i < 6 := hi
  have : i = 0 ∨ i = 1 ∨ i = 2 ∨ i = 3 ∨ i = 4 ∨ i = 5 := by omega
  rcases this with rfl | rfl | rfl | rfl | rfl | rfl <;> exact ⟨rfl, by rw [za_6, za_26]; decide +kernel, by decide, by decide⟩
def yw5 : List Int := [99, 117, 116]
theorem ywst_5 (w : zW) : ywst w (-15) yw5 := by
  refine ywst_i w rfl rfl rfl (by decide) (fun i hi => ?_)
  have hi : i < 3 := hi
  have : i = 0 ∨ i = 1 ∨ i = 2 := by omega
  rcases this with rfl | rfl | rfl <;> exact ⟨rfl, by rw [za_6, za_26]; decide +kernel, by decide, by decide⟩
def yw6 : List Int := [98, 108, 101, 110, 100]
theorem ywst_6 (w : zW) : ywst w (-12) yw6 := by
  refine ywst_i w rfl rfl rfl (by decide) (fun i hi => ?_)
  have hi : i < 5 := hi
  have : i = 0 ∨ i = 1 ∨ i = 2 ∨ i = 3 ∨ i = 4 := by omega
  rcases this with rfl | rfl | rfl | rfl | rfl <;> exact ⟨rfl, by rw [za_6, za_26]; decide +kernel, by decide, by decide⟩
def yw7 : List Int := [115, 104, 105, 102, 116]
theorem ywst_7 (w : zW) : ywst w (-21) yw7 := by
  refine ywst_i w rfl rfl rfl (by decide) (fun i hi => ?_)
  have hi : i < 5 := hi
  have : i = 0 ∨ i = 1 ∨ i = 2 ∨ i = 3 ∨ i = 4 := by omega
  rcases this with rfl | rfl | rfl | rfl | rfl <;> exact ⟨rfl, by rw [za_6, za_26]; decide +kernel, by decide, by decide⟩
def yw8 : List Int := [114, 101, 112, 101, 97, 116]
theorem ywst_8 (w : zW) : ywst w (-19) yw8 := by
  refine ywst_i w rfl rfl rfl (by decide) (fun i hi => ?_)
  have hi : i < 6 := hi
  have : i = 0 ∨ i = 1 ∨ i = 2 ∨ i = 3 ∨ i = 4 ∨ i = 5 := by omega
  rcases this with rfl | rfl | rfl | rfl | rfl | rfl <;> exact ⟨rfl, by rw [za_6, za_26]; decide +kernel, by decide, by decide⟩
def yw9 : List Int := [109, 105, 114, 114, 111, 114]
theorem ywst_9 (w : zW) : ywst w (-18) yw9 := by
  refine ywst_i w rfl rfl rfl (by decide) (fun i hi => ?_)
  have hi : i < 6 := hi
  have : i = 0 ∨ i = 1 ∨ i = 2 ∨ i = 3 ∨ i = 4 ∨ i = 5 := by omega
  rcases this with rfl | rfl | rfl | rfl | rfl | rfl <;> exact ⟨rfl, by rw [za_6, za_26]; decide +kernel, by decide, by decide⟩
def yw10 : List Int := [116, 117, 114, 110]
theorem ywst_10 (w : zW) : ywst w (-22) yw10 := by
  refine ywst_i w rfl rfl rfl (by decide) (fun i hi => ?_)
  have hi : i < 4 := hi
  have : i = 0 ∨ i = 1 ∨ i = 2 ∨ i = 3 := by omega
  rcases this with rfl | rfl | rfl | rfl <;> exact ⟨rfl, by rw [za_6, za_26]; decide +kernel, by decide, by decide⟩
def yw11 : List Int := [103, 114, 111, 119, 110]
theorem ywst_11 (w : zW) : ywst w (-16) yw11 := by
  refine ywst_i w rfl rfl rfl (by decide) (fun i hi => ?_)
  have hi : i < 5 := hi
  have : i = 0 ∨ i = 1 ∨ i = 2 ∨ i = 3 ∨ i = 4 := by omega
  rcases this with rfl | rfl | rfl | rfl | rfl <;> exact ⟨rfl, by rw [za_6, za_26]; decide +kernel, by decide, by decide⟩
def yw12 : List Int := [115, 104, 101, 108, 108]
theorem ywst_12 (w : zW) : ywst w (-20) yw12 := by
  refine ywst_i w rfl rfl rfl (by decide) (fun i hi => ?_)
  have hi : i < 5 := hi
  have : i = 0 ∨ i = 1 ∨ i = 2 ∨ i = 3 ∨ i = 4 := by omega
  rcases this with rfl | rfl | rfl | rfl | rfl <;> exact ⟨rfl, by rw [za_6, za_26]; decide +kernel, by decide, by decide⟩
end
