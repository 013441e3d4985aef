/-! Numbers: the machine's Int against the JVM's words -/
def zc32 (x : Int) : Prop := -2147483648 ≤ x ∧ x < 2147483648
def zc64 (x : Int) : Prop := -9223372036854775808 ≤ x ∧ x < 9223372036854775808
theorem zc_i (u : Int32) : zc32 u.toInt := ⟨by have := u.le_toInt; omega, by have := u.toInt_lt; omega⟩
theorem zc_l (u : Int64) : zc64 u.toInt := ⟨by have := u.le_toInt; omega, by have := u.toInt_lt; omega⟩
theorem zt_i {x : Int} (h : zc32 x) : (Int32.ofInt x).toInt = x := Int32.toInt_ofInt_of_le (by have := h.1; omega) (by have := h.2; omega)
theorem zt_l {x : Int} (h : zc64 x) : (Int64.ofInt x).toInt = x := Int64.toInt_ofInt_of_le (by have := h.1; omega) (by have := h.2; omega)
theorem zw32_c (z : Int) : zc32 (zw32 z) := by
  have h1 := Int.le_bmod (x := z) (m := 4294967296) (by decide)
  have h2 := Int.bmod_lt (x := z) (m := 4294967296) (by decide)
  exact ⟨by unfold zw32; omega, by unfold zw32; omega⟩
theorem zw64_c (z : Int) : zc64 (zw64 z) := by
  have h1 := Int.le_bmod (x := z) (m := 18446744073709551616) (by decide)
  have h2 := Int.bmod_lt (x := z) (m := 18446744073709551616) (by decide)
  exact ⟨by unfold zw64; omega, by unfold zw64; omega⟩
theorem zw32_id {z : Int} (h : zc32 z) : zw32 z = z := Int.bmod_eq_of_le (by have := h.1; omega) (by have := h.2; omega)
theorem zw64_id {z : Int} (h : zc64 z) : zw64 z = z := Int.bmod_eq_of_le (by have := h.1; omega) (by have := h.2; omega)
theorem zo_w (z : Int) : Int32.ofInt (zw32 z) = Int32.ofInt z := by
  rw [← Int32.toInt_inj, Int32.toInt_ofInt, Int32.toInt_ofInt]
  exact Int.bmod_bmod ..
theorem zo_wl (z : Int) : Int64.ofInt (zw64 z) = Int64.ofInt z := by
  rw [← Int64.toInt_inj, Int64.toInt_ofInt, Int64.toInt_ofInt]
  exact Int.bmod_bmod ..
theorem zo_of {u : Int32} {z : Int} (h : u.toInt = Int.bmod z (2 ^ 32)) : u = Int32.ofInt (zw32 z) := by
  rw [zo_w, ← Int32.toInt_inj, Int32.toInt_ofInt, h]
theorem zo_ofl {u : Int64} {z : Int} (h : u.toInt = Int.bmod z (2 ^ 64)) : u = Int64.ofInt (zw64 z) := by
  rw [zo_wl, ← Int64.toInt_inj, Int64.toInt_ofInt, h]
section
variable {x y : Int}
theorem zo_add (hx : zc32 x) (hy : zc32 y) : Int32.ofInt x + Int32.ofInt y = Int32.ofInt (zw32 (x + y)) := zo_of (by rw [Int32.toInt_add, zt_i hx, zt_i hy])
theorem zo_sub (hx : zc32 x) (hy : zc32 y) : Int32.ofInt x - Int32.ofInt y = Int32.ofInt (zw32 (x - y)) := zo_of (by rw [Int32.toInt_sub, zt_i hx, zt_i hy])
theorem zo_mul (hx : zc32 x) (hy : zc32 y) : Int32.ofInt x * Int32.ofInt y = Int32.ofInt (zw32 (x * y)) := zo_of (by rw [Int32.toInt_mul, zt_i hx, zt_i hy])
theorem zo_div (hx : zc32 x) (hy : zc32 y) : Int32.ofInt x / Int32.ofInt y = Int32.ofInt (zw32 (x.tdiv y)) := zo_of (by rw [Int32.toInt_div, zt_i hx, zt_i hy])
theorem zo_neg (hx : zc32 x) : -Int32.ofInt x = Int32.ofInt (zw32 (-x)) := zo_of (by rw [Int32.toInt_neg, zt_i hx])
theorem ztm32 (hx : zc32 x) (hy : zc32 y) (h0 : y ≠ 0) : zc32 (x.tmod y) := by
  have h1 := Int.tmod_lt_of_pos
  obtain ⟨a, b⟩ := hy
  obtain ⟨c, d⟩ := hx
  have e := Int.natAbs_tmod x y
  have f : (x.tmod y).natAbs < y.natAbs := by rw [e]; exact Nat.mod_lt _ (by omega)
  have g : (x.tmod y).natAbs ≤ x.natAbs := by rw [e]; exact Nat.mod_le _ _
  exact ⟨by omega, by omega⟩
theorem zo_rem (hx : zc32 x) (hy : zc32 y) (h0 : y ≠ 0) : Int32.ofInt x - Int32.ofInt x / Int32.ofInt y * Int32.ofInt y = Int32.ofInt (x.tmod y) := by
  have h : Int32.ofInt x - Int32.ofInt x / Int32.ofInt y * Int32.ofInt y = Int32.ofInt (zw32 (x.tmod y)) := by
    apply zo_of
    rw [Int32.toInt_sub, Int32.toInt_mul, Int32.toInt_div, zt_i hx, zt_i hy, Int.bmod_mul_bmod, Int.sub_bmod_bmod]
    congr 1
    have := Int.tmod_add_tdiv_mul x y
    have e : x.tdiv y * y = y * x.tdiv y := Int.mul_comm ..
    omega
  rw [h, zw32_id (ztm32 hx hy h0)]
end
section
variable {x y : Int}
theorem zo_addl (hx : zc64 x) (hy : zc64 y) : Int64.ofInt x + Int64.ofInt y = Int64.ofInt (zw64 (x + y)) := zo_ofl (by rw [Int64.toInt_add, zt_l hx, zt_l hy])
theorem zo_subl (hx : zc64 x) (hy : zc64 y) : Int64.ofInt x - Int64.ofInt y = Int64.ofInt (zw64 (x - y)) := zo_ofl (by rw [Int64.toInt_sub, zt_l hx, zt_l hy])
theorem zo_mull (hx : zc64 x) (hy : zc64 y) : Int64.ofInt x * Int64.ofInt y = Int64.ofInt (zw64 (x * y)) := zo_ofl (by rw [Int64.toInt_mul, zt_l hx, zt_l hy])
theorem zo_divl (hx : zc64 x) (hy : zc64 y) : Int64.ofInt x / Int64.ofInt y = Int64.ofInt (zw64 (x.tdiv y)) := zo_ofl (by rw [Int64.toInt_div, zt_l hx, zt_l hy])
theorem zo_negl (hx : zc64 x) : -Int64.ofInt x = Int64.ofInt (zw64 (-x)) := zo_ofl (by rw [Int64.toInt_neg, zt_l hx])
theorem ztm64 (hx : zc64 x) (hy : zc64 y) (h0 : y ≠ 0) : zc64 (x.tmod y) := by
  obtain ⟨a, b⟩ := hy
  obtain ⟨c, d⟩ := hx
  have e := Int.natAbs_tmod x y
  have f : (x.tmod y).natAbs < y.natAbs := by rw [e]; exact Nat.mod_lt _ (by omega)
  have g : (x.tmod y).natAbs ≤ x.natAbs := by rw [e]; exact Nat.mod_le _ _
  exact ⟨by omega, by omega⟩
theorem zo_reml (hx : zc64 x) (hy : zc64 y) (h0 : y ≠ 0) : Int64.ofInt x - Int64.ofInt x / Int64.ofInt y * Int64.ofInt y = Int64.ofInt (x.tmod y) := by
  have h : Int64.ofInt x - Int64.ofInt x / Int64.ofInt y * Int64.ofInt y = Int64.ofInt (zw64 (x.tmod y)) := by
    apply zo_ofl
    rw [Int64.toInt_sub, Int64.toInt_mul, Int64.toInt_div, zt_l hx, zt_l hy, Int.bmod_mul_bmod, Int.sub_bmod_bmod]
    congr 1
    have := Int.tmod_add_tdiv_mul x y
    have e : x.tdiv y * y = y * x.tdiv y := Int.mul_comm ..
    omega
  rw [h, zw64_id (ztm64 hx hy h0)]
end
theorem zb_i (x : Int) : (Int32.ofInt x).toBitVec.toNat = zu32 x := by
  rw [Int32.toBitVec_ofInt, BitVec.toNat_ofInt]
  rfl
theorem zb_l (x : Int) : (Int64.ofInt x).toBitVec.toNat = zu64 x := by
  rw [Int64.toBitVec_ofInt, BitVec.toNat_ofInt]
  rfl
theorem zu32_lt (x : Int) : zu32 x < 4294967296 := by unfold zu32; omega
theorem zu64_lt (x : Int) : zu64 x < 18446744073709551616 := by unfold zu64; omega
theorem zu32_n {n : Nat} (h : n < 4294967296) : zu32 (n : Int) = n := by unfold zu32; omega
theorem zu64_n {n : Nat} (h : n < 18446744073709551616) : zu64 (n : Int) = n := by unfold zu64; omega
theorem zo_bits {u : Int32} {n : Nat} (hn : n < 4294967296) (h : u.toBitVec.toNat = n) : u = Int32.ofInt (zw32 (n : Int)) := by
  rw [zo_w, ← Int32.toBitVec_inj]
  apply BitVec.eq_of_toNat_eq
  rw [h, zb_i, zu32_n hn]
theorem zo_bitsl {u : Int64} {n : Nat} (hn : n < 18446744073709551616) (h : u.toBitVec.toNat = n) : u = Int64.ofInt (zw64 (n : Int)) := by
  rw [zo_wl, ← Int64.toBitVec_inj]
  apply BitVec.eq_of_toNat_eq
  rw [h, zb_l, zu64_n hn]
theorem zo_and (x y : Int) : Int32.ofInt x &&& Int32.ofInt y = Int32.ofInt (zand x y) := zo_bits (Nat.and_lt_two_pow _ (n := 32) (zu32_lt y)) (by rw [Int32.toBitVec_and, BitVec.toNat_and, zb_i, zb_i])
theorem zo_or (x y : Int) : Int32.ofInt x ||| Int32.ofInt y = Int32.ofInt (zor x y) := zo_bits (Nat.or_lt_two_pow (n := 32) (zu32_lt x) (zu32_lt y)) (by rw [Int32.toBitVec_or, BitVec.toNat_or, zb_i, zb_i])
theorem zo_xor (x y : Int) : Int32.ofInt x ^^^ Int32.ofInt y = Int32.ofInt (zxor x y) := zo_bits (Nat.xor_lt_two_pow (n := 32) (zu32_lt x) (zu32_lt y)) (by rw [Int32.toBitVec_xor, BitVec.toNat_xor, zb_i, zb_i])
theorem zo_andl (x y : Int) : Int64.ofInt x &&& Int64.ofInt y = Int64.ofInt (zandL x y) := zo_bitsl (Nat.and_lt_two_pow _ (n := 64) (zu64_lt y)) (by rw [Int64.toBitVec_and, BitVec.toNat_and, zb_l, zb_l])
theorem zo_orl (x y : Int) : Int64.ofInt x ||| Int64.ofInt y = Int64.ofInt (zorL x y) := zo_bitsl (Nat.or_lt_two_pow (n := 64) (zu64_lt x) (zu64_lt y)) (by rw [Int64.toBitVec_or, BitVec.toNat_or, zb_l, zb_l])
theorem zo_xorl (x y : Int) : Int64.ofInt x ^^^ Int64.ofInt y = Int64.ofInt (zxorL x y) := zo_bitsl (Nat.xor_lt_two_pow (n := 64) (zu64_lt x) (zu64_lt y)) (by rw [Int64.toBitVec_xor, BitVec.toNat_xor, zb_l, zb_l])
theorem zs_k (y : Int) : ((Int32.ofInt y &&& 31).toBitVec.smod 32).toNat = zu32 y % 32 := by
  have e : (Int32.ofInt y &&& 31).toBitVec.toNat = zu32 y % 32 := by
    rw [Int32.toBitVec_and, BitVec.toNat_and, zb_i]
    exact Nat.and_two_pow_sub_one_eq_mod (zu32 y) 5
  have hm : (Int32.ofInt y &&& 31).toBitVec.msb = false := by
    rw [BitVec.msb_eq_false_iff_two_mul_lt, e]
    omega
  rw [BitVec.smod_eq, hm]
  show ((Int32.ofInt y &&& 31).toBitVec % 32#32).toNat = _
  rw [BitVec.toNat_umod, e]
  exact Nat.mod_mod _ _
theorem zo_shl (x y : Int) : Int32.ofInt x <<< (Int32.ofInt y &&& 31) = Int32.ofInt (zshl x y) := by
  have h := pk_shl (Int32.ofInt x) (Int32.ofInt y &&& 31) _ (zs_k y)
  rw [zb_i] at h
  have h2 := zo_bits (Nat.mod_lt _ (by decide)) h
  rw [h2, zshl, zo_w, zo_w, ← Int32.toInt_inj, Int32.toInt_ofInt, Int32.toInt_ofInt]
  have : ((zu32 x * 2 ^ (zu32 y % 32) % 2 ^ 32 : Nat) : Int) = (x * 2 ^ (zu32 y % 32)) % (4294967296 : Int) := by
    have hz : (zu32 x : Int) = x % 4294967296 := by unfold zu32; omega
    rw [Int.natCast_emod, Int.natCast_mul, hz, Int.natCast_pow]
    show x % 4294967296 * 2 ^ (zu32 y % 32) % 4294967296 = _
    rw [Int.mul_emod (x % 4294967296), Int.emod_emod, ← Int.mul_emod]
  rw [this]
  exact Int.emod_bmod _ 4294967296
theorem zo_shr {x : Int} (hx : zc32 x) (y : Int) : Int32.ofInt x >>> (Int32.ofInt y &&& 31) = Int32.ofInt (zshr x y) := by
  have h := pk_shr (Int32.ofInt x) (Int32.ofInt y &&& 31) _ (zs_k y)
  rw [zt_i hx] at h
  rw [← Int32.ofInt_toInt (Int32.ofInt x >>> (Int32.ofInt y &&& 31)), h, Int.shiftRight_eq_div_pow]
  rfl
theorem zo_ushr (x y : Int) : ((Int32.ofInt x).toUInt32 >>> ((Int32.ofInt y).toUInt32 &&& Int32.toUInt32 31)).toInt32 = Int32.ofInt (zushr x y) := by
  have e : (((Int32.ofInt y).toUInt32 &&& Int32.toUInt32 31).toBitVec % 32).toNat = zu32 y % 32 := by
    rw [BitVec.toNat_umod, UInt32.toBitVec_and, BitVec.toNat_and]
    show ((Int32.ofInt y).toBitVec.toNat &&& 31) % 32 = _
    rw [zb_i, Nat.and_two_pow_sub_one_eq_mod (zu32 y) 5]
    exact Nat.mod_mod _ _
  have h := pk_ushr (Int32.ofInt x) (Int32.ofInt y) _ e
  rw [zb_i] at h
  exact zo_bits (Nat.lt_of_le_of_lt (Nat.div_le_self _ _) (zu32_lt x)) h
theorem zb_il {y : Int} (hy : zc32 y) : (Int32.ofInt y).toInt64 = Int64.ofInt y := by
  rw [← Int64.toInt_inj, Int32.toInt_toInt64, zt_i hy, zt_l ⟨by have := hy.1; omega, by have := hy.2; omega⟩]
theorem zu_il (y : Int) : zu64 y % 64 = zu32 y % 64 := by unfold zu64 zu32; omega
theorem zs_kl (y : Int) : ((Int64.ofInt y &&& 63).toBitVec.smod 64).toNat = zu64 y % 64 := by
  have e : (Int64.ofInt y &&& 63).toBitVec.toNat = zu64 y % 64 := by
    rw [Int64.toBitVec_and, BitVec.toNat_and, zb_l]
    exact Nat.and_two_pow_sub_one_eq_mod (zu64 y) 6
  have hm : (Int64.ofInt y &&& 63).toBitVec.msb = false := by
    rw [BitVec.msb_eq_false_iff_two_mul_lt, e]
    omega
  rw [BitVec.smod_eq, hm]
  show ((Int64.ofInt y &&& 63).toBitVec % 64#64).toNat = _
  rw [BitVec.toNat_umod, e]
  exact Nat.mod_mod _ _
theorem zo_shll (x : Int) {y : Int} (hy : zc32 y) : Int64.ofInt x <<< ((Int32.ofInt y).toInt64 &&& 63) = Int64.ofInt (zshlL x y) := by
  rw [zb_il hy, zshlL, zo_wl, ← Int64.toBitVec_inj, Int64.toBitVec_shiftLeft]
  apply BitVec.eq_of_toNat_eq
  rw [BitVec.shiftLeft_eq', zs_kl, zu_il, BitVec.toNat_shiftLeft, zb_l, zb_l, Nat.shiftLeft_eq]
  have hz : (zu64 x : Int) = x % 18446744073709551616 := by unfold zu64; omega
  have : ((zu64 x * 2 ^ (zu32 y % 64) % 2 ^ 64 : Nat) : Int) = (x * 2 ^ (zu32 y % 64)) % (18446744073709551616 : Int) := by
    rw [Int.natCast_emod, Int.natCast_mul, hz, Int.natCast_pow]
    show x % 18446744073709551616 * 2 ^ (zu32 y % 64) % 18446744073709551616 = _
    rw [Int.mul_emod (x % 18446744073709551616), Int.emod_emod, ← Int.mul_emod]
  unfold zu64 at this ⊢
  omega
theorem zo_ushrl (x : Int) {y : Int} (hy : zc32 y) : ((Int64.ofInt x).toUInt64 >>> ((Int32.ofInt y).toInt64.toUInt64 &&& Int64.toUInt64 63)).toInt64 = Int64.ofInt (zushrL x y) := by
  rw [zb_il hy]
  refine zo_bitsl (Nat.lt_of_le_of_lt (Nat.div_le_self _ _) (zu64_lt x)) ?_
  show ((Int64.ofInt x).toUInt64 >>> ((Int64.ofInt y).toUInt64 &&& Int64.toUInt64 63)).toBitVec.toNat = _
  rw [UInt64.toBitVec_shiftRight]
  show ((Int64.ofInt x).toBitVec >>> (((Int64.ofInt y).toUInt64 &&& Int64.toUInt64 63).toBitVec % 64)).toNat = _
  rw [BitVec.ushiftRight_eq', BitVec.toNat_ushiftRight, zb_l, Nat.shiftRight_eq_div_pow, BitVec.toNat_umod, UInt64.toBitVec_and, BitVec.toNat_and]
  show zu64 x / 2 ^ (((Int64.ofInt y).toBitVec.toNat &&& 63) % 64) = _
  rw [zb_l, Nat.and_two_pow_sub_one_eq_mod (zu64 y) 6, Nat.mod_mod, zu_il]
theorem zo_i2l {x : Int} (hx : zc32 x) : (Int32.ofInt x).toInt64 = Int64.ofInt x := zb_il hx
theorem zo_l2i {x : Int} (hx : zc64 x) : (Int64.ofInt x).toInt32 = Int32.ofInt (zw32 x) := zo_of (by rw [Int64.toInt_toInt32, zt_l hx])
theorem zw8_c (z : Int) : -128 ≤ zw8 z ∧ zw8 z < 128 := by
  have h1 := Int.le_bmod (x := z) (m := 256) (by decide)
  have h2 := Int.bmod_lt (x := z) (m := 256) (by decide)
  exact ⟨by unfold zw8; omega, by unfold zw8; omega⟩
theorem zw16_c (z : Int) : -32768 ≤ zw16 z ∧ zw16 z < 32768 := by
  have h1 := Int.le_bmod (x := z) (m := 65536) (by decide)
  have h2 := Int.bmod_lt (x := z) (m := 65536) (by decide)
  exact ⟨by unfold zw16; omega, by unfold zw16; omega⟩
theorem zo_i2b {x : Int} (hx : zc32 x) : (Int32.ofInt x).toInt8.toInt32 = Int32.ofInt (zw8 x) := by
  have h := zw8_c x
  rw [← Int32.toInt_inj, Int8.toInt_toInt32, Int32.toInt_toInt8, zt_i hx, zt_i ⟨by omega, by omega⟩]
  rfl
theorem zo_i2s {x : Int} (hx : zc32 x) : (Int32.ofInt x).toInt16.toInt32 = Int32.ofInt (zw16 x) := by
  have h := zw16_c x
  rw [← Int32.toInt_inj, Int16.toInt_toInt32, Int32.toInt_toInt16, zt_i hx, zt_i ⟨by omega, by omega⟩]
  rfl
theorem zo_i2c (x : Int) : ((Int32.ofInt x).toUInt32 % 65536).toInt32 = Int32.ofInt (x % 65536) := by
  have h : ((Int32.ofInt x).toUInt32 % 65536).toInt32.toBitVec.toNat = zu32 x % 65536 := by
    show ((Int32.ofInt x).toUInt32 % 65536).toBitVec.toNat = _
    rw [UInt32.toBitVec_mod, BitVec.toNat_umod]
    show (Int32.ofInt x).toBitVec.toNat % 65536 = _
    rw [zb_i]
  rw [zo_bits (by omega) h, zo_w]
  congr 1
  unfold zu32
  omega
theorem zi_lt {x y : Int} (hx : zc32 x) (hy : zc32 y) : Int32.ofInt x < Int32.ofInt y ↔ x < y := by rw [Int32.lt_iff_toInt_lt, zt_i hx, zt_i hy]
theorem zi_le {x y : Int} (hx : zc32 x) (hy : zc32 y) : Int32.ofInt x ≤ Int32.ofInt y ↔ x ≤ y := by rw [Int32.le_iff_toInt_le, zt_i hx, zt_i hy]
theorem zi_eq {x y : Int} (hx : zc32 x) (hy : zc32 y) : Int32.ofInt x = Int32.ofInt y ↔ x = y := by rw [← Int32.toInt_inj, zt_i hx, zt_i hy]
theorem zi_0 : Int32.ofInt 0 = 0 := rfl
theorem zl_lt {x y : Int} (hx : zc64 x) (hy : zc64 y) : Int64.ofInt x < Int64.ofInt y ↔ x < y := by rw [Int64.lt_iff_toInt_lt, zt_l hx, zt_l hy]
theorem zl_eq {x y : Int} (hx : zc64 x) (hy : zc64 y) : Int64.ofInt x = Int64.ofInt y ↔ x = y := by rw [← Int64.toInt_inj, zt_l hx, zt_l hy]
theorem zi_nat {x : Int} (hx : zc32 x) (h0 : 0 ≤ x) : (Int32.ofInt x).toNatClampNeg = x.toNat := by
  have h : (Int32.ofInt x).toNatClampNeg = (Int32.ofInt x).toInt.toNat := rfl
  rw [h, zt_i hx]
theorem zi_in {x : Int} {n : Nat} (hx : zc32 x) (h0 : 0 ≤ x) (h1 : x < (n : Int)) : vp_in (Int32.ofInt x) n := by
  rw [vp_in_iff, zt_i hx]
  exact ⟨h0, h1⟩
