/-! .. with the oldest carving dropped where twelve are kept -/
theorem l_323r (w : zW) (d : Nat) {how a2 : Int} {f : Int → Int} : ∀ (m : Nat) (k : Int) (σ : zMem), 1 ≤ k → k + m = 12 → (∀ j, k ≤ j → j < 12 → σ 230 j = f j) →
    ∃ v2 v3, zden w d 323 11 [zA 13 32 209, zI how, zA 22 4096 a2, zI k, zU, zU] [] σ = zden w d 323 34 [zA 13 32 209, zI how, v2, v3, zU, zU] [] (zup (zup (yfm 230 (fun j => f (j + 1)) (k - 1) 11 σ) 230 11 a2) 209 24 11) := by
  intro m
  induction m with
  | zero =>
    intro k σ h0 h hf
    have : k = 12 := by omega
    subst this
    refine ⟨zA 22 4096 a2, zI 12, ?_⟩
    rw [hX12_carves_11, if_neg (by omega), show (12 : Int) - 1 = 11 from rfl, yfm_e]
  | succ m ih =>
    intro k σ h0 h hf
    have e : zar 1 k 1 = k - 1 := by rw [za_1, zw32_i (by omega)]
    obtain ⟨v2, v3, q⟩ := ih (k + 1) (zup σ 230 (k - 1) (σ 230 k)) (by omega) (by omega) (fun j a b => (zup_f (by omega)).trans (hf j (by omega) b))
    refine ⟨v2, v3, ?_⟩
    rw [hX12_carves_11, if_pos (by omega), if_pos (by omega), e, if_pos (by omega), za_0, zw32_i (by omega), q, show k + 1 - 1 = (k - 1) + 1 by omega, yfm_up (by decide) (by omega)]
    rw [hf k (by omega) (by omega), show k - 1 + 1 = k by omega]
/-- what the reference's carving leaves -/
def zCar (how : Int) (σ σ' : zMem) : Prop :=
  (∀ p : Int, 0 ≤ p → p < 4096 → σ' 229 p = yto how (σ 229 p) (σ 215 p)) ∧ σ' 209 24 = min (σ 209 24 + 1) 12 ∧ σ' 209 25 = zw32 (σ 209 25 + 1) ∧ zPm σ'
  ∧ (∀ i : Int, 0 ≤ i → i < σ' 209 24 - 1 → σ' (σ' 230 i) = σ (σ 230 (i + (σ 209 24 + 1 - σ' 209 24))))
  ∧ (∀ p : Int, 0 ≤ p → p < 4096 → σ' (σ' 230 (σ' 209 24 - 1)) p = ych how (σ 229 p) (σ 215 p))
  ∧ ∀ a k, a ≠ 229 → ¬ (230 ≤ a ∧ a ≤ 242) → ¬ (a = 209 ∧ (k = 24 ∨ k = 25)) → σ' a k = σ a k
theorem s_323m (w : zW) (d : Nat) {how n : Int} {v4 v5 : zV} {σ : zMem} (hn : σ 209 24 = n) (hn2 : 0 ≤ n ∧ n < 12) (hp : zPm σ) :
    ∃ σ', zden w d 323 34 [zA 13 32 209, zI how, v4, v5, zU, zU] [] σ = some (((yct (fun p => zbo (ych how (σ 229 p) (σ 215 p))) 4096 : Nat) : Int), σ') ∧ zCar how σ σ' := by
  have h1 := (hp n hn2.1 hn2.2).1
  refine ⟨zup (zup (ycar (σ 230 n) (fun p => yto how (σ 229 p) (σ 215 p)) (fun p => ych how (σ 229 p) (σ 215 p)) 0 σ) 209 24 (n + 1)) 209 25 (zw32 (σ 209 25 + 1)), ?_, ?_⟩
  · rw [hX12_carves_34]
    exact l_323 w d (b := σ 229) (g := σ 215) hn2 (by omega) 4096 0 zU zU σ (by omega) hn rfl rfl rfl (fun _ _ _ => rfl)
  · obtain ⟨σ', hs⟩ : ∃ σ', σ' = zup (zup (ycar (σ 230 n) (fun p => yto how (σ 229 p) (σ 215 p)) (fun p => ych how (σ 229 p) (σ 215 p)) 0 σ) 209 24 (n + 1)) 209 25 (zw32 (σ 209 25 + 1)) := ⟨_, rfl⟩
    rw [← hs]
    have g1 : ∀ p : Int, 0 ≤ p → p < 4096 → σ' 229 p = yto how (σ 229 p) (σ 215 p) := fun p a b => by
      rw [hs, zup_f (by omega), zup_f (by omega), ycar, yfm_t (by omega)]
    have g2 : σ' 209 24 = n + 1 := by rw [hs, zup_f (by omega), zup_t (by omega)]
    have g3 : σ' 209 25 = zw32 (σ 209 25 + 1) := by rw [hs, zup_t (by omega)]
    have g4 : ∀ p : Int, 0 ≤ p → p < 4096 → σ' (σ 230 n) p = ych how (σ 229 p) (σ 215 p) := fun p a b => by
      rw [hs, zup_f (by omega), zup_f (by omega), ycar, yfm_f (by omega), yfm_t (by omega)]
    have g5 : ∀ a k, a ≠ 229 → a ≠ σ 230 n → ¬ (a = 209 ∧ (k = 24 ∨ k = 25)) → σ' a k = σ a k := fun a k q r t => by
      rw [hs, zup_f (by omega), zup_f (by omega), ycar, yfm_f (by omega), yfm_f (by omega)]
    have e230 : σ' 230 = σ 230 := funext fun k => g5 _ _ (by omega) (by omega) (by omega)
    refine ⟨g1, by omega, g3, ?_, ?_, ?_, fun a k q r t => g5 a k q (by omega) t⟩
    · unfold zPm
      rw [e230]
      exact hp
    · intro i a b
      rw [e230, g2, hn, show i + (n + 1 - (n + 1)) = i by omega]
      have h2 := (hp i a (by omega)).1
      have h3 : σ 230 i ≠ σ 230 n := fun q => by have := (hp i a (by omega)).2 n hn2.1 hn2.2 q; omega
      exact funext fun k => g5 _ _ (by omega) h3 (by omega)
    · rw [e230, g2, show n + 1 - 1 = n by omega]
      exact g4
theorem s_323 (w : zW) (d : Nat) {how : Int} {σ : zMem} (hn : 0 ≤ σ 209 24 ∧ σ 209 24 ≤ 12) (hp : zPm σ) :
    ∃ σ', zcall w d 323 [zA 13 32 209, zI how] σ = some (((yct (fun p => zbo (ych how (σ 229 p) (σ 215 p))) 4096 : Nat) : Int), σ') ∧ zCar how σ σ' := by
  by_cases c : σ 209 24 = 12
  · obtain ⟨v2, v3, e⟩ := l_323r w d (how := how) (a2 := σ 230 0) (f := σ 230) 11 1 σ (by omega) (by omega) (fun _ _ _ => rfl)
    obtain ⟨σa, ha⟩ : ∃ σa, σa = zup (zup (yfm 230 (fun j => σ 230 (j + 1)) (1 - 1) 11 σ) 230 11 (σ 230 0)) 209 24 11 := ⟨_, rfl⟩
    rw [← ha] at e
    have g1 : ∀ a k, a ≠ 230 → ¬ (a = 209 ∧ k = 24) → σa a k = σ a k := fun a k q r => by rw [ha, zup_f (by omega), zup_f (by omega), yfm_f (by omega)]
    have g2 : σa 209 24 = 11 := by rw [ha, zup_t (by omega)]
    have g3 : ∀ i, 0 ≤ i → i < 11 → σa 230 i = σ 230 (i + 1) := fun i a b => by rw [ha, zup_f (by omega), zup_f (by omega), yfm_t (by omega)]
    have g4 : σa 230 11 = σ 230 0 := by rw [ha, zup_f (by omega), zup_t (by omega)]
    have gf : ∀ a, a ≠ 230 → a ≠ 209 → σa a = σ a := fun a q r => funext fun k => g1 a k q (by omega)
    have g5 : ∀ i, 0 ≤ i → i < 12 → σa 230 i = σ 230 ((i + 1) % 12) := fun i a b => by
      by_cases q : i < 11
      · rw [g3 i a q]; congr 1; omega
      · rw [show i = 11 by omega, g4]; rfl
    have hpa : zPm σa := by
      intro i a b
      rw [g5 i a b]
      obtain ⟨u1, u2⟩ := hp ((i + 1) % 12) (by omega) (by omega)
      refine ⟨u1, fun j a2 b2 q => ?_⟩
      rw [g5 j a2 b2] at q
      have := u2 _ (by omega) (by omega) q
      omega
    obtain ⟨σ', e2, k1, k2, k3, k4, k5, k6, k7⟩ := s_323m w d (how := how) (n := 11) (v4 := v2) (v5 := v3) (σ := σa) g2 (by decide) hpa
    rw [gf 229 (by decide) (by decide), gf 215 (by decide) (by decide)] at e2 k1 k6
    refine ⟨σ', ?_, k1, by omega, by rw [k3, g1 209 25 (by decide) (by decide)], k4, fun i a b => ?_, k6, fun a k q r t => ?_⟩
    · rw [eX12_carves, if_pos c, e, e2]
    · have h11 : σ' 209 24 = 12 := by omega
      rw [k5 i a b, g2, h11, c, show i + (11 + 1 - 12) = i by omega, g3 i a (by omega), show i + (12 + 1 - 12) = i + 1 by omega]
      have h2 := (hp (i + 1) (by omega) (by omega)).1
      exact gf _ (by omega) (by omega)
    · rw [k7 a k q r t, g1 a k (by omega) (by omega)]
  · obtain ⟨σ', e, k⟩ := s_323m w d (how := how) (n := σ 209 24) (v4 := zU) (v5 := zU) (σ := σ) rfl (by omega) hp
    refine ⟨σ', ?_, k⟩
    rw [eX12_carves, if_neg c, e]
