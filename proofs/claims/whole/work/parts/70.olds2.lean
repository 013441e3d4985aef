section
variable {args : Array Value} {s : State}
set_option maxRecDepth 100000 in
theorem zly_und : Jvm.Cond.laysStatic "RaysOfShapes$Kinds" "UNDER" "[I" ∈ lw_tbl := zsub_2 (List.mem_of_getElem? (i := 176) rfl)
set_option maxRecDepth 100000 in
theorem zly_num : Jvm.Cond.laysStatic "RaysOfShapes$Kinds" "NUMBERS_OF" "[I" ∈ lw_tbl := zsub_4 (List.mem_of_getElem? (i := 87) rfl)
set_option maxRecDepth 100000 in
theorem zly_cmp : Jvm.Cond.laysStatic "java/lang/String" "COMPACT_STRINGS" "Z" ∈ lw_tbl := zsub_4 (List.mem_of_getElem? (i := 40) rfl)
set_option maxRecDepth 100000 in
theorem zly_fmt : Jvm.Cond.laysStatic "jdk/internal/util/Preconditions" "SIOOBE_FORMATTER" "Ljava/util/function/BiFunction;" ∈ lw_tbl := zsub_4 (List.mem_of_getElem? (i := 56) rfl)
theorem zini_K : Jvm.Cond.initialized "RaysOfShapes$Kinds" ∈ lw_tbl := by
  obtain ⟨md, h⟩ : ∃ md, znth zmd 26 = some md := ⟨_, rfl⟩
  have h1 := (zmd_get h).1.2.1
  cases h
  exact h1
theorem zini_P : Jvm.Cond.initialized "jdk/internal/util/Preconditions" ∈ lw_tbl := by
  obtain ⟨md, h⟩ : ∃ md, znth zmd 351 = some md := ⟨_, rfl⟩
  have h1 := (zmd_get h).1.2.1
  cases h
  exact h1
def zadl : List Int32 := []
def zads (b tU tN : Nat) (K V : List Nat) (a : Int) : Nat := if a = -1 then b else if a = -2 then tU else if a = -3 then tN else if -23 ≤ a ∧ a ≤ -10 then K.getD (-10 - a).toNat 0 else if -53 ≤ a ∧ a ≤ -40 then V.getD (-40 - a).toNat 0 else 0
theorem zngv {w : zW} {n : Nat} {V : List Int32} {a : Int} (hz : ∀ k, zR w a k = zR zw0 a k) (h : ((List.range n).all fun j => decide (V.getD j 0 = Int32.ofInt (zR zw0 a j))) = true) : ∀ j, j < n → Value.int (V.getD j 0) = Value.int (Int32.ofInt (zR w a (j : Nat))) := by
  intro j hj
  have := of_decide_eq_true (List.all_eq_true.mp h j (List.mem_range.mpr hj))
  rw [this, hz]
theorem zold_start {w : zW} {b L : Nat} {xs : Nat → Int32} (hw1 : w.1 = (L : Int)) (hw2 : ∀ j : Nat, j < L → Int32.ofInt (w.2 j) = xs j) (hL : L ≤ 3584) (hts : ∀ w ∈ lw_tbl, w.before args s = true) (hs : zNar args s) (hX : va_X b L xs s s.heap) : ∃ (ad : Int → Nat) (v0 : Value), zOld w ad v0 s.heap.size s s.heap ∧ ad (-1) = b ∧ va_T .int (ad (-2)) 18 (fun j => .int (Int32.ofInt (zR w (-2) (j : Nat)))) (zA0 s.heap.size) s s.heap := by
  have hA : ∀ a : Nat, a < s.heap.size → ¬ zA0 s.heap.size a := fun a h q => by have q : s.heap.size ≤ a := q; omega
  obtain ⟨tU, eU, hU⟩ := zot_und hs hA
  obtain ⟨tN, eN, hN⟩ := zot_num hs hA
  obtain ⟨k10, u10, e10, o10, c10, f10, t10⟩ := zos_10 hs hA
  obtain ⟨k11, u11, e11, o11, c11, f11, t11⟩ := zos_11 hs hA
  obtain ⟨k12, u12, e12, o12, c12, f12, t12⟩ := zos_12 hs hA
  obtain ⟨k13, u13, e13, o13, c13, f13, t13⟩ := zos_13 hs hA
  obtain ⟨k14, u14, e14, o14, c14, f14, t14⟩ := zos_14 hs hA
  obtain ⟨k15, u15, e15, o15, c15, f15, t15⟩ := zos_15 hs hA
  obtain ⟨k16, u16, e16, o16, c16, f16, t16⟩ := zos_16 hs hA
  obtain ⟨k17, u17, e17, o17, c17, f17, t17⟩ := zos_17 hs hA
  obtain ⟨k18, u18, e18, o18, c18, f18, t18⟩ := zos_18 hs hA
  obtain ⟨k19, u19, e19, o19, c19, f19, t19⟩ := zos_19 hs hA
  obtain ⟨k20, u20, e20, o20, c20, f20, t20⟩ := zos_20 hs hA
  obtain ⟨k21, u21, e21, o21, c21, f21, t21⟩ := zos_21 hs hA
  obtain ⟨k22, u22, e22, o22, c22, f22, t22⟩ := zos_22 hs hA
  obtain ⟨k23, u23, e23, o23, c23, f23, t23⟩ := zos_23 hs hA
  obtain ⟨v0, ev, hv0⟩ : ∃ v0 : Value, va_Z "jdk/internal/util/Preconditions" "SIOOBE_FORMATTER" "Ljava/util/function/BiFunction;" v0 (zA0 s.heap.size) s s.heap ∧ v0.category = 1 := by
    rcases va_Zqof (A := zA0 s.heap.size) (hts _ zly_fmt) (hts _ zini_P) (zof hs) hA with h | ⟨t, h⟩
    · exact ⟨_, h, rfl⟩
    · exact ⟨_, h, rfl⟩
  have hXT : va_T .int b L (fun j => .int (Int32.ofInt (w.2 j))) (zA0 s.heap.size) s s.heap := by
    obtain ⟨scr, h1, h2, h3, h4, h5⟩ := hX
    exact ⟨scr, h1, h2, h3, by omega, by rw [h4], fun j hj => by rw [h5 j hj]; exact congrArg some (congrArg Value.int (hw2 j hj).symm), hA b (Array.getElem?_eq_some_iff.mp h1).1⟩
  refine ⟨zads b tU tN [k10, k11, k12, k13, k14, k15, k16, k17, k18, k19, k20, k21, k22, k23] [u10, u11, u12, u13, u14, u15, u16, u17, u18, u19, u20, u21, u22, u23], v0, ⟨fun a ha hk => ?_, fun a ha hk => ?_, fun a ha hk => ?_, ?_, ?_, ?_, ev, hv0, ?_⟩, rfl, ?_⟩
  · by_cases h1 : a = -1
    · subst h1
      rw [zK_m1]
      show va_T .int b w.1.toNat (fun j => .int (Int32.ofInt (w.2 j))) _ s s.heap
      rw [hw1]
      exact hXT
    · obtain ⟨n, rfl, e1, e2, e3⟩ := zng (w := w) ha h1
      have hn : n < 52 := by
        by_cases q : n < 52
        · exact q
        · rw [e1, zK_out (by omega)] at hk; exact absurd hk (by decide)
      have h23 : ((List.range 52).all fun n => decide ((zK zw0 (Int.negSucc (n + 1))).1 ≠ 23) || Nat.beq n 0 || Nat.beq n 1) = true := by decide +kernel
      have h4 := List.all_eq_true.mp h23 n (List.mem_range.mpr hn)
      rw [e1] at hk
      simp only [Bool.or_eq_true, decide_eq_true_eq] at h4
      rcases h4 with (h4 | h4) | h4
      · exact absurd hk h4
      · have := Nat.eq_of_beq_eq_true h4; subst this
        exact va_T_congr hU (zngv (w := w) (n := 18) e2 (by decide +kernel))
      · have := Nat.eq_of_beq_eq_true h4; subst this
        exact va_T_congr hN (zngv (w := w) (n := 18) e2 (by decide +kernel))
  · obtain ⟨n, rfl, e1, e2, e3⟩ := zng (w := w) ha (fun q => by subst q; exact absurd (show (23 : Int) = 40 from hk) (by decide))
    have hn : n < 52 := by
      by_cases q : n < 52
      · exact q
      · rw [e1, zK_out (by omega)] at hk; exact absurd hk (by decide)
    have h23 : ((List.range 52).all fun n => decide ((zK zw0 (Int.negSucc (n + 1))).1 ≠ 40) || (Nat.ble 8 n && Nat.ble n 21)) = true := by decide +kernel
    have h4 := List.all_eq_true.mp h23 n (List.mem_range.mpr hn)
    rw [e1] at hk
    rw [e2]
    simp only [Bool.or_eq_true, Bool.and_eq_true, decide_eq_true_eq] at h4
    rcases h4 with h4 | ⟨h4, h5⟩
    · exact absurd hk h4
    · have h4 := Nat.le_of_ble_eq_true h4
      have h5 := Nat.le_of_ble_eq_true h5
      obtain ⟨i, rfl⟩ : ∃ i, n = i + 8 := ⟨n - 8, by omega⟩
      match i, h5 with
      | 0, _ => exact ⟨o10, c10, f10⟩
      | 1, _ => exact ⟨o11, c11, f11⟩
      | 2, _ => exact ⟨o12, c12, f12⟩
      | 3, _ => exact ⟨o13, c13, f13⟩
      | 4, _ => exact ⟨o14, c14, f14⟩
      | 5, _ => exact ⟨o15, c15, f15⟩
      | 6, _ => exact ⟨o16, c16, f16⟩
      | 7, _ => exact ⟨o17, c17, f17⟩
      | 8, _ => exact ⟨o18, c18, f18⟩
      | 9, _ => exact ⟨o19, c19, f19⟩
      | 10, _ => exact ⟨o20, c20, f20⟩
      | 11, _ => exact ⟨o21, c21, f21⟩
      | 12, _ => exact ⟨o22, c22, f22⟩
      | 13, _ => exact ⟨o23, c23, f23⟩
      | i + 14, h => exact absurd h (by omega)
  · obtain ⟨n, rfl, e1, e2, e3⟩ := zng (w := w) ha (fun q => by subst q; exact absurd (show (23 : Int) = 24 from hk) (by decide))
    have hn : n < 52 := by
      by_cases q : n < 52
      · exact q
      · rw [e1, zK_out (by omega)] at hk; exact absurd hk (by decide)
    have h23 : ((List.range 52).all fun n => decide ((zK zw0 (Int.negSucc (n + 1))).1 ≠ 24) || (Nat.ble 38 n && Nat.ble n 51)) = true := by decide +kernel
    have h4 := List.all_eq_true.mp h23 n (List.mem_range.mpr hn)
    rw [e1] at hk
    simp only [Bool.or_eq_true, Bool.and_eq_true, decide_eq_true_eq] at h4
    rcases h4 with h4 | ⟨h4, h5⟩
    · exact absurd hk h4
    · have h4 := Nat.le_of_ble_eq_true h4
      have h5 := Nat.le_of_ble_eq_true h5
      obtain ⟨i, rfl⟩ : ∃ i, n = i + 38 := ⟨n - 38, by omega⟩
      rw [e2]
      match i, h5 with
      | 0, _ => exact va_T_congr t10 (zngv (w := w) (n := 0) e2 (by decide +kernel))
      | 1, _ => exact va_T_congr t11 (zngv (w := w) (n := 4) e2 (by decide +kernel))
      | 2, _ => exact va_T_congr t12 (zngv (w := w) (n := 5) e2 (by decide +kernel))
      | 3, _ => exact va_T_congr t13 (zngv (w := w) (n := 3) e2 (by decide +kernel))
      | 4, _ => exact va_T_congr t14 (zngv (w := w) (n := 6) e2 (by decide +kernel))
      | 5, _ => exact va_T_congr t15 (zngv (w := w) (n := 3) e2 (by decide +kernel))
      | 6, _ => exact va_T_congr t16 (zngv (w := w) (n := 5) e2 (by decide +kernel))
      | 7, _ => exact va_T_congr t17 (zngv (w := w) (n := 4) e2 (by decide +kernel))
      | 8, _ => exact va_T_congr t18 (zngv (w := w) (n := 6) e2 (by decide +kernel))
      | 9, _ => exact va_T_congr t19 (zngv (w := w) (n := 6) e2 (by decide +kernel))
      | 10, _ => exact va_T_congr t20 (zngv (w := w) (n := 5) e2 (by decide +kernel))
      | 11, _ => exact va_T_congr t21 (zngv (w := w) (n := 5) e2 (by decide +kernel))
      | 12, _ => exact va_T_congr t22 (zngv (w := w) (n := 4) e2 (by decide +kernel))
      | 13, _ => exact va_T_congr t23 (zngv (w := w) (n := 5) e2 (by decide +kernel))
      | i + 14, h => exact absurd h (by omega)
  · exact va_Zref (hts _ zly_und) (hts _ zini_K) eU hA
  · exact va_Zref (hts _ zly_num) (hts _ zini_K) eN hA
  · exact va_Zof (hts _ zly_cmp) (hts _ zinit_str) (va_eqi (zoc hs)) hA
  · intro q hq
    have hst := zsis_ok q hq
    obtain ⟨t, ht1, ht2⟩ := hst
    refine ⟨t, vk_R.of (hts _ ht2) ?_⟩
    simp only [zsis, List.mem_cons, List.not_mem_nil, or_false] at hq
    rcases hq with rfl | rfl | rfl | rfl | rfl | rfl | rfl | rfl | rfl | rfl | rfl | rfl | rfl | rfl | rfl | rfl | rfl | rfl | rfl | rfl | rfl | rfl | rfl | rfl | rfl | rfl | rfl
    · exact e11
    · exact e13
    · exact e17
    · exact e23
    · exact e14
    · exact e15
    · exact e12
    · exact e21
    · exact e19
    · exact e18
    · exact e22
    · exact e16
    · exact e20
    · exact e10
    · exact zoe_11 hs e11
    · exact zoe_13 hs e13
    · exact zoe_17 hs e17
    · exact zoe_23 hs e23
    · exact zoe_14 hs e14
    · exact zoe_15 hs e15
    · exact zoe_12 hs e12
    · exact zoe_21 hs e21
    · exact zoe_19 hs e19
    · exact zoe_18 hs e18
    · exact zoe_22 hs e22
    · exact zoe_16 hs e16
    · exact zoe_20 hs e20
  · exact va_T_congr hU (zngv (w := w) (n := 18) (fun k => zR_neg w 0 k) (by decide +kernel))
end
