/-! References put into arrays; the world grows -/
theorem zaty_ref {cc : Int} (h : 30 ≤ cc) : (zaty cc).isReference = true := by
  unfold zaty
  rw [if_neg (by omega), if_neg (by omega), if_neg (by omega)]
  split <;> (try split) <;> (try split) <;> rfl
theorem arrV_ext {cI : ClassId} {N : Nat} {f g : Nat → Value} (h : ∀ j, j < N → f j = g j) : arrV cI N f = arrV cI N g := by
  unfold arrV
  congr 2
  funext j
  exact h j.val j.isLt
theorem zKc_a : ((List.range zKt.length).all fun a => match znth zKt a with
    | some (c, n) => decide (c ≤ 0) || decide (13 < c) || (match znth zcl (c - 1).toNat with
      | some r => decide (n = (r.2.2 : Int))
      | none => false)
    | none => false) = true := by decide +kernel
theorem zKc {w : zW} {a : Int} {r : vw_C} (ha : 0 < a) (hc : (zK w a).1 ≤ 13) (hc0 : 0 < (zK w a).1) (h : znth zcl ((zK w a).1 - 1).toNat = some r) : (zK w a).2 = (r.2.2 : Int) := by
  obtain ⟨n, rfl⟩ : ∃ n : Nat, a = (n : Int) := ⟨a.toNat, by omega⟩
  have e : zK w (n : Int) = (znth zKt n).getD (0, 0) := rfl
  rw [e] at hc hc0 h ⊢
  cases hq : znth zKt n with
  | none => rw [hq] at hc0; exact absurd hc0 (by decide)
  | some q =>
    rw [hq] at hc hc0 h
    obtain ⟨c, k⟩ := q
    have h1 := List.all_eq_true.mp zKc_a n (List.mem_range.mpr (znth_len hq))
    rw [hq] at h1
    have hc : c ≤ 13 := hc
    have hc0 : 0 < c := hc0
    have h : znth zcl (c - 1).toNat = some r := h
    dsimp only at h1
    rw [h] at h1
    have h2 : (decide (c ≤ 0) || decide (13 < c) || decide (k = (r.2.2 : Int))) = true := h1
    have h3 : k = (r.2.2 : Int) := by
      simp only [Bool.or_eq_true, decide_eq_true_eq] at h2
      omega
    exact h3
section
variable {p : Program} {l : Launch} {e : Env} {R : Room} {s : State} {m : MethodId} {args : Array Value} {below : List Frame} {meth : Method} {c : Code} {H : Heap} {locs : List Loc} {cells slots : Nat} {Q : State → Prop}
variable {w : zW} {D : va_G} {B0 : Nat} {ad : Int → Nat} {ca : Int → ClassId} {σ : zMem} {b : ByteArray} {pc : Nat} {lsC : Array Slot} {rest : List Value} {a n i : Int} {A : Nat → Prop} {H0 : Heap}
theorem zh_aast {cc x : Int} {v : Addr} {cv : Cell} {kv : Class} (hx : p.tables.exec = Jvm.exec) (hb : c.code = b) (hW : zWo w D B0 ad ca σ s H) (ha : 0 < a) (hac : a < σ 0 0) (hS : va_S A H0 H locs) (hA : A (ad a)) (hk : zK w a = (cc, n)) (hcc : 30 ≤ cc) (hi : zc32 i) (h0 : 0 ≤ i) (h1 : i < n)
    (hv : H[v]? = some cv) (hvobj : ∀ q, cv.vm ≠ .statics q) (hkv : s.vm.classes[cv.cls]? = some kv) (hcl : s.vm.findClass (zcompN cc) = some cv.cls) (hsv : zsv w ad (zup σ a i x) a i = .ref v) (hsk : zsk w (zup σ a i x) a i) (hd : decode b pc = .ok (.aastore, 1))
    (kk : ∀ (H1 : Heap) (locs1 : List Loc), zWo w D B0 ad ca (zup σ a i x) s H1 → va_S A H0 H1 locs1 → W p l e R s m args below meth c H1 locs1 cells slots Q (F0 m (pc + 1) lsC rest)) : W p l e R s m args below meth c H locs cells slots Q (F0 m pc lsC (.ref v :: .int (Int32.ofInt i) :: .ref (ad a) :: rest)) := by
  obtain ⟨hc, hK⟩ := zarr hW ha hac hk (by omega)
  obtain ⟨kA, comp, g1, g2, g3⟩ := hK.2.2 hcc
  have ec : comp = cv.cls := Option.some.inj (g3.symm.trans hcl)
  subst ec
  have hin := zin_lt hi h0 h1
  refine W.aast hx hb hc (fun q z => by cases z) (fun z => by cases z) g1 g2 (zaty_ref hcc) hkv ⟨fun z => hin (Or.inl z), by rw [arrV_size]; exact Nat.not_le.mp (fun z => hin (Or.inr z))⟩ hv hvobj hkv (va_asg _ _) rfl rfl hd fun H1 e1 e2 e3 => ?_
  exact kk H1 _ (zWo_set hW ha hac e3 (zce_arr hk (by omega) hi h0 e1 hsv) (fun _ _ => hsk)) (hS.put e2 e3 hA)
end
