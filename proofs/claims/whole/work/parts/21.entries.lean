def zciOK (q : Nat × Nat × Int) : Prop := Jvm.Cond.constant (zcnOf q.1) q.2.1 (Int32.ofInt q.2.2) ∈ lw_tbl
set_option maxRecDepth 100000 in
theorem zcis_0 : zciOK (5, 55, (-1000000000)) := zsub_2 (List.mem_of_getElem? (i := 227) rfl)
set_option maxRecDepth 100000 in
theorem zcis_1 : zciOK (9, 66, (-1000000000)) := zsub_3 (List.mem_of_getElem? (i := 104) rfl)
set_option maxRecDepth 100000 in
theorem zcis_2 : zciOK (1, 30, 1103515245) := zsub_5 (List.mem_of_getElem? (i := 239) rfl)
set_option maxRecDepth 100000 in
theorem zcis_3 : zciOK (13, 413, 99999) := zsub_8 (List.mem_of_getElem? (i := 67) rfl)
set_option maxRecDepth 100000 in
theorem zcis_4 : zciOK (13, 475, 1103515245) := zsub_8 (List.mem_of_getElem? (i := 188) rfl)
noncomputable def zcis : List (Nat × Nat × Int) := [(5, 55, (-1000000000)), (9, 66, (-1000000000)), (1, 30, 1103515245), (13, 413, 99999), (13, 475, 1103515245)]
theorem zcis_ok : ∀ q ∈ zcis, zciOK q := List.forall_mem_cons.mpr ⟨zcis_0, List.forall_mem_cons.mpr ⟨zcis_1, List.forall_mem_cons.mpr ⟨zcis_2, List.forall_mem_cons.mpr ⟨zcis_3, List.forall_mem_cons.mpr ⟨zcis_4, fun _ h => absurd h List.not_mem_nil⟩⟩⟩⟩⟩
def zliOK (q : Nat × Nat × Int) : Prop := Jvm.Cond.constantLong (zcnOf q.1) q.2.1 (Int64.ofInt q.2.2) ∈ lw_tbl
set_option maxRecDepth 100000 in
theorem zlis_0 : zliOK (15, 314, 6148914691236517205) := zsub_3 (List.mem_of_getElem? (i := 185) rfl)
set_option maxRecDepth 100000 in
theorem zlis_1 : zliOK (15, 316, 3689348814741910323) := zsub_3 (List.mem_of_getElem? (i := 186) rfl)
set_option maxRecDepth 100000 in
theorem zlis_2 : zliOK (15, 318, 1085102592571150095) := zsub_3 (List.mem_of_getElem? (i := 187) rfl)
set_option maxRecDepth 100000 in
theorem zlis_3 : zliOK (12, 246, (-9000000000000)) := zsub_4 (List.mem_of_getElem? (i := 238) rfl)
set_option maxRecDepth 100000 in
theorem zlis_4 : zliOK (12, 410, 4096) := zsub_5 (List.mem_of_getElem? (i := 168) rfl)
set_option maxRecDepth 100000 in
theorem zlis_5 : zliOK (6, 39, (-1)) := zsub_5 (List.mem_of_getElem? (i := 196) rfl)
set_option maxRecDepth 100000 in
theorem zlis_6 : zliOK (13, 179, (-99)) := zsub_6 (List.mem_of_getElem? (i := 184) rfl)
set_option maxRecDepth 100000 in
theorem zlis_7 : zliOK (13, 181, 99) := zsub_6 (List.mem_of_getElem? (i := 185) rfl)
set_option maxRecDepth 100000 in
theorem zlis_8 : zliOK (13, 114, 9000000000000) := zsub_6 (List.mem_of_getElem? (i := 194) rfl)
set_option maxRecDepth 100000 in
theorem zlis_9 : zliOK (13, 130, 16003008000) := zsub_6 (List.mem_of_getElem? (i := 207) rfl)
set_option maxRecDepth 100000 in
theorem zlis_10 : zliOK (13, 243, 4095) := zsub_7 (List.mem_of_getElem? (i := 9) rfl)
set_option maxRecDepth 100000 in
theorem zlis_11 : zliOK (13, 257, 3) := zsub_7 (List.mem_of_getElem? (i := 19) rfl)
set_option maxRecDepth 100000 in
theorem zlis_12 : zliOK (13, 270, 2) := zsub_7 (List.mem_of_getElem? (i := 101) rfl)
set_option maxRecDepth 100000 in
theorem zlis_13 : zliOK (13, 272, 15) := zsub_7 (List.mem_of_getElem? (i := 102) rfl)
set_option maxRecDepth 100000 in
theorem zlis_14 : zliOK (13, 277, (-4)) := zsub_7 (List.mem_of_getElem? (i := 114) rfl)
set_option maxRecDepth 100000 in
theorem zlis_15 : zliOK (13, 279, 4) := zsub_7 (List.mem_of_getElem? (i := 115) rfl)
set_option maxRecDepth 100000 in
theorem zlis_16 : zliOK (13, 302, 9) := zsub_7 (List.mem_of_getElem? (i := 170) rfl)
set_option maxRecDepth 100000 in
theorem zlis_17 : zliOK (13, 304, 4096) := zsub_7 (List.mem_of_getElem? (i := 171) rfl)
set_option maxRecDepth 100000 in
theorem zlis_18 : zliOK (13, 312, 40) := zsub_7 (List.mem_of_getElem? (i := 205) rfl)
set_option maxRecDepth 100000 in
theorem zlis_19 : zliOK (13, 314, (-40)) := zsub_7 (List.mem_of_getElem? (i := 206) rfl)
set_option maxRecDepth 100000 in
theorem zlis_20 : zliOK (13, 316, 55) := zsub_7 (List.mem_of_getElem? (i := 207) rfl)
set_option maxRecDepth 100000 in
theorem zlis_21 : zliOK (13, 318, (-999)) := zsub_7 (List.mem_of_getElem? (i := 208) rfl)
set_option maxRecDepth 100000 in
theorem zlis_22 : zliOK (13, 320, 999) := zsub_7 (List.mem_of_getElem? (i := 209) rfl)
set_option maxRecDepth 100000 in
theorem zlis_23 : zliOK (13, 322, (-9)) := zsub_7 (List.mem_of_getElem? (i := 210) rfl)
set_option maxRecDepth 100000 in
theorem zlis_24 : zliOK (13, 324, 16) := zsub_7 (List.mem_of_getElem? (i := 211) rfl)
set_option maxRecDepth 100000 in
theorem zlis_25 : zliOK (13, 360, 8) := zsub_8 (List.mem_of_getElem? (i := 0) rfl)
set_option maxRecDepth 100000 in
theorem zlis_26 : zliOK (13, 362, 10) := zsub_8 (List.mem_of_getElem? (i := 1) rfl)
set_option maxRecDepth 100000 in
theorem zlis_27 : zliOK (13, 364, 13) := zsub_8 (List.mem_of_getElem? (i := 14) rfl)
set_option maxRecDepth 100000 in
theorem zlis_28 : zliOK (13, 366, 17) := zsub_8 (List.mem_of_getElem? (i := 19) rfl)
set_option maxRecDepth 100000 in
theorem zlis_29 : zliOK (13, 374, 255) := zsub_8 (List.mem_of_getElem? (i := 40) rfl)
set_option maxRecDepth 100000 in
theorem zlis_30 : zliOK (13, 399, 97) := zsub_8 (List.mem_of_getElem? (i := 57) rfl)
set_option maxRecDepth 100000 in
theorem zlis_31 : zliOK (13, 401, 122) := zsub_8 (List.mem_of_getElem? (i := 58) rfl)
set_option maxRecDepth 100000 in
theorem zlis_32 : zliOK (13, 409, 48) := zsub_8 (List.mem_of_getElem? (i := 65) rfl)
set_option maxRecDepth 100000 in
theorem zlis_33 : zliOK (13, 411, 57) := zsub_8 (List.mem_of_getElem? (i := 66) rfl)
set_option maxRecDepth 100000 in
theorem zlis_34 : zliOK (13, 436, 7) := zsub_8 (List.mem_of_getElem? (i := 94) rfl)
set_option maxRecDepth 100000 in
theorem zlis_35 : zliOK (13, 444, 11) := zsub_8 (List.mem_of_getElem? (i := 125) rfl)
set_option maxRecDepth 100000 in
theorem zlis_36 : zliOK (13, 455, 20) := zsub_8 (List.mem_of_getElem? (i := 138) rfl)
set_option maxRecDepth 100000 in
theorem zlis_37 : zliOK (13, 476, 60) := zsub_8 (List.mem_of_getElem? (i := 183) rfl)
set_option maxRecDepth 100000 in
theorem zlis_38 : zliOK (13, 492, 12) := zsub_8 (List.mem_of_getElem? (i := 212) rfl)
set_option maxRecDepth 100000 in
theorem zlis_39 : zliOK (14, 18, 4294967295) := zsub_8 (List.mem_of_getElem? (i := 213) rfl)
noncomputable def zlis : List (Nat × Nat × Int) := [(15, 314, 6148914691236517205), (15, 316, 3689348814741910323), (15, 318, 1085102592571150095), (12, 246, (-9000000000000)), (12, 410, 4096), (6, 39, (-1)), (13, 179, (-99)), (13, 181, 99), (13, 114, 9000000000000), (13, 130, 16003008000), (13, 243, 4095), (13, 257, 3), (13, 270, 2), (13, 272, 15), (13, 277, (-4)), (13, 279, 4), (13, 302, 9), (13, 304, 4096), (13, 312, 40), (13, 314, (-40)), (13, 316, 55), (13, 318, (-999)), (13, 320, 999), (13, 322, (-9)), (13, 324, 16), (13, 360, 8), (13, 362, 10), (13, 364, 13), (13, 366, 17), (13, 374, 255), (13, 399, 97), (13, 401, 122), (13, 409, 48), (13, 411, 57), (13, 436, 7), (13, 444, 11), (13, 455, 20), (13, 476, 60), (13, 492, 12), (14, 18, 4294967295)]
theorem zlis_ok : ∀ q ∈ zlis, zliOK q := List.forall_mem_cons.mpr ⟨zlis_0, List.forall_mem_cons.mpr ⟨zlis_1, List.forall_mem_cons.mpr ⟨zlis_2, List.forall_mem_cons.mpr ⟨zlis_3, List.forall_mem_cons.mpr ⟨zlis_4, List.forall_mem_cons.mpr ⟨zlis_5, List.forall_mem_cons.mpr ⟨zlis_6, List.forall_mem_cons.mpr ⟨zlis_7, List.forall_mem_cons.mpr ⟨zlis_8, List.forall_mem_cons.mpr ⟨zlis_9, List.forall_mem_cons.mpr ⟨zlis_10, List.forall_mem_cons.mpr ⟨zlis_11, List.forall_mem_cons.mpr ⟨zlis_12, List.forall_mem_cons.mpr ⟨zlis_13, List.forall_mem_cons.mpr ⟨zlis_14, List.forall_mem_cons.mpr ⟨zlis_15, List.forall_mem_cons.mpr ⟨zlis_16, List.forall_mem_cons.mpr ⟨zlis_17, List.forall_mem_cons.mpr ⟨zlis_18, List.forall_mem_cons.mpr ⟨zlis_19, List.forall_mem_cons.mpr ⟨zlis_20, List.forall_mem_cons.mpr ⟨zlis_21, List.forall_mem_cons.mpr ⟨zlis_22, List.forall_mem_cons.mpr ⟨zlis_23, List.forall_mem_cons.mpr ⟨zlis_24, List.forall_mem_cons.mpr ⟨zlis_25, List.forall_mem_cons.mpr ⟨zlis_26, List.forall_mem_cons.mpr ⟨zlis_27, List.forall_mem_cons.mpr ⟨zlis_28, List.forall_mem_cons.mpr ⟨zlis_29, List.forall_mem_cons.mpr ⟨zlis_30, List.forall_mem_cons.mpr ⟨zlis_31, List.forall_mem_cons.mpr ⟨zlis_32, List.forall_mem_cons.mpr ⟨zlis_33, List.forall_mem_cons.mpr ⟨zlis_34, List.forall_mem_cons.mpr ⟨zlis_35, List.forall_mem_cons.mpr ⟨zlis_36, List.forall_mem_cons.mpr ⟨zlis_37, List.forall_mem_cons.mpr ⟨zlis_38, List.forall_mem_cons.mpr ⟨zlis_39, fun _ h => absurd h List.not_mem_nil⟩⟩⟩⟩⟩⟩⟩⟩⟩⟩⟩⟩⟩⟩⟩⟩⟩⟩⟩⟩⟩⟩⟩⟩⟩⟩⟩⟩⟩⟩⟩⟩⟩⟩⟩⟩⟩⟩⟩⟩
def ztxs : List String := ["", "ball", "blend", "box", "common", "cut", "grown", "half", "mirror", "repeat", "shell", "shift", "turn", "union"]
/-- string constants: own class, index, the object number -/
def zsiOK (q : Nat × Nat × Int) : Prop := ∃ t : String, znth ztxs (-10 - q.2.2).toNat = some t ∧ Jvm.Cond.stringRef (zcnOf q.1) q.2.1 t ∈ lw_tbl
set_option maxRecDepth 100000 in
theorem zsis_0 : zsiOK (3, 37, (-11)) := ⟨_, rfl, zsub_4 (List.mem_of_getElem? (i := 13) rfl)⟩
set_option maxRecDepth 100000 in
theorem zsis_1 : zsiOK (3, 39, (-13)) := ⟨_, rfl, zsub_4 (List.mem_of_getElem? (i := 14) rfl)⟩
set_option maxRecDepth 100000 in
theorem zsis_2 : zsiOK (3, 41, (-17)) := ⟨_, rfl, zsub_4 (List.mem_of_getElem? (i := 15) rfl)⟩
set_option maxRecDepth 100000 in
theorem zsis_3 : zsiOK (3, 43, (-23)) := ⟨_, rfl, zsub_4 (List.mem_of_getElem? (i := 16) rfl)⟩
set_option maxRecDepth 100000 in
theorem zsis_4 : zsiOK (3, 45, (-14)) := ⟨_, rfl, zsub_4 (List.mem_of_getElem? (i := 17) rfl)⟩
set_option maxRecDepth 100000 in
theorem zsis_5 : zsiOK (3, 47, (-15)) := ⟨_, rfl, zsub_4 (List.mem_of_getElem? (i := 18) rfl)⟩
set_option maxRecDepth 100000 in
theorem zsis_6 : zsiOK (3, 49, (-12)) := ⟨_, rfl, zsub_4 (List.mem_of_getElem? (i := 19) rfl)⟩
set_option maxRecDepth 100000 in
theorem zsis_7 : zsiOK (3, 51, (-21)) := ⟨_, rfl, zsub_4 (List.mem_of_getElem? (i := 20) rfl)⟩
set_option maxRecDepth 100000 in
theorem zsis_8 : zsiOK (3, 53, (-19)) := ⟨_, rfl, zsub_4 (List.mem_of_getElem? (i := 21) rfl)⟩
set_option maxRecDepth 100000 in
theorem zsis_9 : zsiOK (3, 55, (-18)) := ⟨_, rfl, zsub_4 (List.mem_of_getElem? (i := 22) rfl)⟩
set_option maxRecDepth 100000 in
theorem zsis_10 : zsiOK (3, 57, (-22)) := ⟨_, rfl, zsub_4 (List.mem_of_getElem? (i := 23) rfl)⟩
set_option maxRecDepth 100000 in
theorem zsis_11 : zsiOK (3, 59, (-16)) := ⟨_, rfl, zsub_4 (List.mem_of_getElem? (i := 24) rfl)⟩
set_option maxRecDepth 100000 in
theorem zsis_12 : zsiOK (3, 61, (-20)) := ⟨_, rfl, zsub_4 (List.mem_of_getElem? (i := 25) rfl)⟩
set_option maxRecDepth 100000 in
theorem zsis_13 : zsiOK (3, 63, (-10)) := ⟨_, rfl, zsub_4 (List.mem_of_getElem? (i := 26) rfl)⟩
set_option maxRecDepth 100000 in
theorem zsis_14 : zsiOK (13, 40, (-11)) := ⟨_, rfl, zsub_6 (List.mem_of_getElem? (i := 62) rfl)⟩
set_option maxRecDepth 100000 in
theorem zsis_15 : zsiOK (13, 42, (-13)) := ⟨_, rfl, zsub_6 (List.mem_of_getElem? (i := 63) rfl)⟩
set_option maxRecDepth 100000 in
theorem zsis_16 : zsiOK (13, 44, (-17)) := ⟨_, rfl, zsub_6 (List.mem_of_getElem? (i := 64) rfl)⟩
set_option maxRecDepth 100000 in
theorem zsis_17 : zsiOK (13, 46, (-23)) := ⟨_, rfl, zsub_6 (List.mem_of_getElem? (i := 65) rfl)⟩
set_option maxRecDepth 100000 in
theorem zsis_18 : zsiOK (13, 48, (-14)) := ⟨_, rfl, zsub_6 (List.mem_of_getElem? (i := 66) rfl)⟩
set_option maxRecDepth 100000 in
theorem zsis_19 : zsiOK (13, 50, (-15)) := ⟨_, rfl, zsub_6 (List.mem_of_getElem? (i := 67) rfl)⟩
set_option maxRecDepth 100000 in
theorem zsis_20 : zsiOK (13, 52, (-12)) := ⟨_, rfl, zsub_6 (List.mem_of_getElem? (i := 68) rfl)⟩
set_option maxRecDepth 100000 in
theorem zsis_21 : zsiOK (13, 54, (-21)) := ⟨_, rfl, zsub_6 (List.mem_of_getElem? (i := 69) rfl)⟩
set_option maxRecDepth 100000 in
theorem zsis_22 : zsiOK (13, 56, (-19)) := ⟨_, rfl, zsub_6 (List.mem_of_getElem? (i := 70) rfl)⟩
set_option maxRecDepth 100000 in
theorem zsis_23 : zsiOK (13, 58, (-18)) := ⟨_, rfl, zsub_6 (List.mem_of_getElem? (i := 71) rfl)⟩
set_option maxRecDepth 100000 in
theorem zsis_24 : zsiOK (13, 60, (-22)) := ⟨_, rfl, zsub_6 (List.mem_of_getElem? (i := 72) rfl)⟩
set_option maxRecDepth 100000 in
theorem zsis_25 : zsiOK (13, 62, (-16)) := ⟨_, rfl, zsub_6 (List.mem_of_getElem? (i := 73) rfl)⟩
set_option maxRecDepth 100000 in
theorem zsis_26 : zsiOK (13, 64, (-20)) := ⟨_, rfl, zsub_6 (List.mem_of_getElem? (i := 74) rfl)⟩
noncomputable def zsis : List (Nat × Nat × Int) := [(3, 37, (-11)), (3, 39, (-13)), (3, 41, (-17)), (3, 43, (-23)), (3, 45, (-14)), (3, 47, (-15)), (3, 49, (-12)), (3, 51, (-21)), (3, 53, (-19)), (3, 55, (-18)), (3, 57, (-22)), (3, 59, (-16)), (3, 61, (-20)), (3, 63, (-10)), (13, 40, (-11)), (13, 42, (-13)), (13, 44, (-17)), (13, 46, (-23)), (13, 48, (-14)), (13, 50, (-15)), (13, 52, (-12)), (13, 54, (-21)), (13, 56, (-19)), (13, 58, (-18)), (13, 60, (-22)), (13, 62, (-16)), (13, 64, (-20))]
theorem zsis_ok : ∀ q ∈ zsis, zsiOK q := List.forall_mem_cons.mpr ⟨zsis_0, List.forall_mem_cons.mpr ⟨zsis_1, List.forall_mem_cons.mpr ⟨zsis_2, List.forall_mem_cons.mpr ⟨zsis_3, List.forall_mem_cons.mpr ⟨zsis_4, List.forall_mem_cons.mpr ⟨zsis_5, List.forall_mem_cons.mpr ⟨zsis_6, List.forall_mem_cons.mpr ⟨zsis_7, List.forall_mem_cons.mpr ⟨zsis_8, List.forall_mem_cons.mpr ⟨zsis_9, List.forall_mem_cons.mpr ⟨zsis_10, List.forall_mem_cons.mpr ⟨zsis_11, List.forall_mem_cons.mpr ⟨zsis_12, List.forall_mem_cons.mpr ⟨zsis_13, List.forall_mem_cons.mpr ⟨zsis_14, List.forall_mem_cons.mpr ⟨zsis_15, List.forall_mem_cons.mpr ⟨zsis_16, List.forall_mem_cons.mpr ⟨zsis_17, List.forall_mem_cons.mpr ⟨zsis_18, List.forall_mem_cons.mpr ⟨zsis_19, List.forall_mem_cons.mpr ⟨zsis_20, List.forall_mem_cons.mpr ⟨zsis_21, List.forall_mem_cons.mpr ⟨zsis_22, List.forall_mem_cons.mpr ⟨zsis_23, List.forall_mem_cons.mpr ⟨zsis_24, List.forall_mem_cons.mpr ⟨zsis_25, List.forall_mem_cons.mpr ⟨zsis_26, fun _ h => absurd h List.not_mem_nil⟩⟩⟩⟩⟩⟩⟩⟩⟩⟩⟩⟩⟩⟩⟩⟩⟩⟩⟩⟩⟩⟩⟩⟩⟩⟩⟩
def zcnOK (q : Nat × Nat × Nat × Nat) : Prop := ∃ r : vw_C, znth zcl (q.2.2.1 - 1) = some r ∧ 0 < q.2.2.1 ∧ r.2.2 = q.2.2.2 ∧ Jvm.Cond.classLink (zcnOf q.1) q.2.1 r.1 ∈ lw_tbl ∧ Jvm.Cond.instantiable r.1 r.2.2 ∈ lw_tbl ∧ Jvm.Cond.initialized r.1 ∈ lw_tbl
set_option maxRecDepth 100000 in
theorem zcns2_0 : zcnOK (14, 7, 12, 16) := ⟨(RX11, TX11, 16), rfl, by decide, rfl, zsub_1 (List.mem_of_getElem? (i := 21) rfl), zsub_1 (List.mem_of_getElem? (i := 22) rfl), zsub_1 (List.mem_of_getElem? (i := 1) rfl)⟩
set_option maxRecDepth 100000 in
theorem zcns2_1 : zcnOK (12, 9, 10, 8) := ⟨(RX9, TX9, 8), rfl, by decide, rfl, zsub_1 (List.mem_of_getElem? (i := 29) rfl), zsub_1 (List.mem_of_getElem? (i := 30) rfl), zsub_1 (List.mem_of_getElem? (i := 2) rfl)⟩
set_option maxRecDepth 100000 in
theorem zcns2_2 : zcnOK (12, 19, 1, 6) := ⟨(RX0, TX0, 6), rfl, by decide, rfl, zsub_1 (List.mem_of_getElem? (i := 61) rfl), zsub_1 (List.mem_of_getElem? (i := 62) rfl), zsub_1 (List.mem_of_getElem? (i := 3) rfl)⟩
set_option maxRecDepth 100000 in
theorem zcns2_3 : zcnOK (1, 7, 6, 1) := ⟨(RX5, TX5, 1), rfl, by decide, rfl, zsub_1 (List.mem_of_getElem? (i := 67) rfl), zsub_1 (List.mem_of_getElem? (i := 68) rfl), zsub_1 (List.mem_of_getElem? (i := 4) rfl)⟩
set_option maxRecDepth 100000 in
theorem zcns2_4 : zcnOK (12, 29, 8, 3) := ⟨(RX7, TX7, 3), rfl, by decide, rfl, zsub_1 (List.mem_of_getElem? (i := 98) rfl), zsub_1 (List.mem_of_getElem? (i := 99) rfl), zsub_1 (List.mem_of_getElem? (i := 5) rfl)⟩
set_option maxRecDepth 100000 in
theorem zcns2_5 : zcnOK (12, 36, 7, 11) := ⟨(RX6, TX6, 11), rfl, by decide, rfl, zsub_1 (List.mem_of_getElem? (i := 114) rfl), zsub_1 (List.mem_of_getElem? (i := 115) rfl), zsub_1 (List.mem_of_getElem? (i := 6) rfl)⟩
set_option maxRecDepth 100000 in
theorem zcns2_6 : zcnOK (12, 43, 4, 5) := ⟨(RX3, TX3, 5), rfl, by decide, rfl, zsub_1 (List.mem_of_getElem? (i := 154) rfl), zsub_1 (List.mem_of_getElem? (i := 155) rfl), zsub_1 (List.mem_of_getElem? (i := 7) rfl)⟩
set_option maxRecDepth 100000 in
theorem zcns2_7 : zcnOK (4, 9, 6, 1) := ⟨(RX5, TX5, 1), rfl, by decide, rfl, zsub_1 (List.mem_of_getElem? (i := 160) rfl), zsub_1 (List.mem_of_getElem? (i := 68) rfl), zsub_1 (List.mem_of_getElem? (i := 4) rfl)⟩
set_option maxRecDepth 100000 in
theorem zcns2_8 : zcnOK (4, 26, 5, 2) := ⟨(RX4, TX4, 2), rfl, by decide, rfl, zsub_1 (List.mem_of_getElem? (i := 162) rfl), zsub_1 (List.mem_of_getElem? (i := 163) rfl), zsub_1 (List.mem_of_getElem? (i := 8) rfl)⟩
set_option maxRecDepth 100000 in
theorem zcns2_9 : zcnOK (5, 15, 2, 2) := ⟨(RX1, TX1, 2), rfl, by decide, rfl, zsub_1 (List.mem_of_getElem? (i := 168) rfl), zsub_1 (List.mem_of_getElem? (i := 170) rfl), zsub_1 (List.mem_of_getElem? (i := 9) rfl)⟩
set_option maxRecDepth 100000 in
theorem zcns2_10 : zcnOK (4, 33, 9, 3) := ⟨(RX8, TX8, 3), rfl, by decide, rfl, zsub_1 (List.mem_of_getElem? (i := 189) rfl), zsub_1 (List.mem_of_getElem? (i := 190) rfl), zsub_1 (List.mem_of_getElem? (i := 10) rfl)⟩
set_option maxRecDepth 100000 in
theorem zcns2_11 : zcnOK (9, 15, 2, 2) := ⟨(RX1, TX1, 2), rfl, by decide, rfl, zsub_1 (List.mem_of_getElem? (i := 195) rfl), zsub_1 (List.mem_of_getElem? (i := 170) rfl), zsub_1 (List.mem_of_getElem? (i := 9) rfl)⟩
set_option maxRecDepth 100000 in
theorem zcns2_12 : zcnOK (12, 50, 11, 8) := ⟨(RX10, TX10, 8), rfl, by decide, rfl, zsub_1 (List.mem_of_getElem? (i := 223) rfl), zsub_1 (List.mem_of_getElem? (i := 224) rfl), zsub_1 (List.mem_of_getElem? (i := 11) rfl)⟩
set_option maxRecDepth 100000 in
theorem zcns2_13 : zcnOK (11, 9, 6, 1) := ⟨(RX5, TX5, 1), rfl, by decide, rfl, zsub_1 (List.mem_of_getElem? (i := 229) rfl), zsub_1 (List.mem_of_getElem? (i := 68) rfl), zsub_1 (List.mem_of_getElem? (i := 4) rfl)⟩
set_option maxRecDepth 100000 in
theorem zcns2_14 : zcnOK (12, 57, 5, 2) := ⟨(RX4, TX4, 2), rfl, by decide, rfl, zsub_2 (List.mem_of_getElem? (i := 16) rfl), zsub_1 (List.mem_of_getElem? (i := 163) rfl), zsub_1 (List.mem_of_getElem? (i := 8) rfl)⟩
set_option maxRecDepth 100000 in
theorem zcns2_15 : zcnOK (12, 64, 9, 3) := ⟨(RX8, TX8, 3), rfl, by decide, rfl, zsub_2 (List.mem_of_getElem? (i := 18) rfl), zsub_1 (List.mem_of_getElem? (i := 190) rfl), zsub_1 (List.mem_of_getElem? (i := 10) rfl)⟩
set_option maxRecDepth 100000 in
theorem zcns2_16 : zcnOK (12, 71, 6, 1) := ⟨(RX5, TX5, 1), rfl, by decide, rfl, zsub_2 (List.mem_of_getElem? (i := 20) rfl), zsub_1 (List.mem_of_getElem? (i := 68) rfl), zsub_1 (List.mem_of_getElem? (i := 4) rfl)⟩
set_option maxRecDepth 100000 in
theorem zcns2_17 : zcnOK (14, 10, 13, 32) := ⟨(RX12, TX12, 32), rfl, by decide, rfl, zsub_6 (List.mem_of_getElem? (i := 52) rfl), zsub_6 (List.mem_of_getElem? (i := 53) rfl), zsub_1 (List.mem_of_getElem? (i := 12) rfl)⟩
noncomputable def zcns2 : List (Nat × Nat × Nat × Nat) := [(14, 7, 12, 16), (12, 9, 10, 8), (12, 19, 1, 6), (1, 7, 6, 1), (12, 29, 8, 3), (12, 36, 7, 11), (12, 43, 4, 5), (4, 9, 6, 1), (4, 26, 5, 2), (5, 15, 2, 2), (4, 33, 9, 3), (9, 15, 2, 2), (12, 50, 11, 8), (11, 9, 6, 1), (12, 57, 5, 2), (12, 64, 9, 3), (12, 71, 6, 1), (14, 10, 13, 32)]
theorem zcns2_ok : ∀ q ∈ zcns2, zcnOK q := List.forall_mem_cons.mpr ⟨zcns2_0, List.forall_mem_cons.mpr ⟨zcns2_1, List.forall_mem_cons.mpr ⟨zcns2_2, List.forall_mem_cons.mpr ⟨zcns2_3, List.forall_mem_cons.mpr ⟨zcns2_4, List.forall_mem_cons.mpr ⟨zcns2_5, List.forall_mem_cons.mpr ⟨zcns2_6, List.forall_mem_cons.mpr ⟨zcns2_7, List.forall_mem_cons.mpr ⟨zcns2_8, List.forall_mem_cons.mpr ⟨zcns2_9, List.forall_mem_cons.mpr ⟨zcns2_10, List.forall_mem_cons.mpr ⟨zcns2_11, List.forall_mem_cons.mpr ⟨zcns2_12, List.forall_mem_cons.mpr ⟨zcns2_13, List.forall_mem_cons.mpr ⟨zcns2_14, List.forall_mem_cons.mpr ⟨zcns2_15, List.forall_mem_cons.mpr ⟨zcns2_16, List.forall_mem_cons.mpr ⟨zcns2_17, fun _ h => absurd h List.not_mem_nil⟩⟩⟩⟩⟩⟩⟩⟩⟩⟩⟩⟩⟩⟩⟩⟩⟩⟩
def zanm (c : Nat) : String := if c = 30 then "RaysOfShapes$Fraction" else if c = 31 then "RaysOfShapes$Places" else "java/lang/String"
def zanOK (q : Nat × Nat × Nat) : Prop := Jvm.Cond.classLink (zcnOf q.1) q.2.1 (zanm q.2.2) ∈ lw_tbl ∧ Jvm.Cond.arrayOver (.object (zanm q.2.2)) ∈ lw_tbl
set_option maxRecDepth 100000 in
theorem zans_0 : zanOK (1, 7, 31) := ⟨zsub_1 (List.mem_of_getElem? (i := 67) rfl), zsub_1 (List.mem_of_getElem? (i := 78) rfl)⟩
set_option maxRecDepth 100000 in
theorem zans_1 : zanOK (4, 9, 31) := ⟨zsub_1 (List.mem_of_getElem? (i := 160) rfl), zsub_1 (List.mem_of_getElem? (i := 78) rfl)⟩
set_option maxRecDepth 100000 in
theorem zans_2 : zanOK (5, 15, 30) := ⟨zsub_1 (List.mem_of_getElem? (i := 168) rfl), zsub_1 (List.mem_of_getElem? (i := 169) rfl)⟩
set_option maxRecDepth 100000 in
theorem zans_3 : zanOK (9, 15, 30) := ⟨zsub_1 (List.mem_of_getElem? (i := 195) rfl), zsub_1 (List.mem_of_getElem? (i := 169) rfl)⟩
set_option maxRecDepth 100000 in
theorem zans_4 : zanOK (13, 38, 34) := ⟨zsub_6 (List.mem_of_getElem? (i := 60) rfl), zsub_6 (List.mem_of_getElem? (i := 61) rfl)⟩
noncomputable def zans : List (Nat × Nat × Nat) := [(1, 7, 31), (4, 9, 31), (5, 15, 30), (9, 15, 30), (13, 38, 34)]
theorem zans_ok : ∀ q ∈ zans, zanOK q := List.forall_mem_cons.mpr ⟨zans_0, List.forall_mem_cons.mpr ⟨zans_1, List.forall_mem_cons.mpr ⟨zans_2, List.forall_mem_cons.mpr ⟨zans_3, List.forall_mem_cons.mpr ⟨zans_4, fun _ h => absurd h List.not_mem_nil⟩⟩⟩⟩⟩
def zfdT (ty : Nat) (t : FieldType) : Prop := match ty with
  | 1 => t = .int
  | 2 => t = .long
  | 6 => t = .boolean
  | _ => t.isReference = true
def zfdOK (q : Nat × Nat × Nat × Int × Int × Bool) : Prop := ∃ r : vw_C, znth zcl (q.1 - 1) = some r ∧ 0 < q.1 ∧ q.2.1 < r.2.2 ∧ (∃ t, parseFieldDescriptor (r.2.1 q.2.1).2.2.1 = some t ∧ zfdT q.2.2.1 t) ∧ (r.2.1 q.2.1).2.2.2 = q.2.2.2.2.2
set_option maxRecDepth 100000 in
theorem zfds_0 : zfdOK (1, 0, 3, 6, 1, true) := ⟨(RX0, TX0, 6), rfl, by decide, by decide, ⟨_, tyX0_ok 0 (by decide), by first | rfl | (show FieldType.isReference _ = true; rfl)⟩, rfl⟩
set_option maxRecDepth 100000 in
theorem zfds_1 : zfdOK (1, 1, 3, 31, 12, true) := ⟨(RX0, TX0, 6), rfl, by decide, by decide, ⟨_, tyX0_ok 1 (by decide), by first | rfl | (show FieldType.isReference _ = true; rfl)⟩, rfl⟩
set_option maxRecDepth 100000 in
theorem zfds_2 : zfdOK (1, 2, 1, 0, 0, false) := ⟨(RX0, TX0, 6), rfl, by decide, by decide, ⟨_, tyX0_ok 2 (by decide), by first | rfl | (show FieldType.isReference _ = true; rfl)⟩, rfl⟩
set_option maxRecDepth 100000 in
theorem zfds_3 : zfdOK (1, 3, 1, 0, 0, false) := ⟨(RX0, TX0, 6), rfl, by decide, by decide, ⟨_, tyX0_ok 3 (by decide), by first | rfl | (show FieldType.isReference _ = true; rfl)⟩, rfl⟩
set_option maxRecDepth 100000 in
theorem zfds_4 : zfdOK (1, 4, 1, 0, 0, false) := ⟨(RX0, TX0, 6), rfl, by decide, by decide, ⟨_, tyX0_ok 4 (by decide), by first | rfl | (show FieldType.isReference _ = true; rfl)⟩, rfl⟩
set_option maxRecDepth 100000 in
theorem zfds_5 : zfdOK (1, 5, 1, 0, 0, false) := ⟨(RX0, TX0, 6), rfl, by decide, by decide, ⟨_, tyX0_ok 5 (by decide), by first | rfl | (show FieldType.isReference _ = true; rfl)⟩, rfl⟩
set_option maxRecDepth 100000 in
theorem zfds_6 : zfdOK (2, 0, 2, 0, 0, false) := ⟨(RX1, TX1, 2), rfl, by decide, by decide, ⟨_, tyX1_ok 0 (by decide), by first | rfl | (show FieldType.isReference _ = true; rfl)⟩, rfl⟩
set_option maxRecDepth 100000 in
theorem zfds_7 : zfdOK (2, 1, 2, 0, 0, false) := ⟨(RX1, TX1, 2), rfl, by decide, by decide, ⟨_, tyX1_ok 1 (by decide), by first | rfl | (show FieldType.isReference _ = true; rfl)⟩, rfl⟩
set_option maxRecDepth 100000 in
theorem zfds_8 : zfdOK (4, 0, 3, 31, 24, true) := ⟨(RX3, TX3, 5), rfl, by decide, by decide, ⟨_, tyX3_ok 0 (by decide), by first | rfl | (show FieldType.isReference _ = true; rfl)⟩, rfl⟩
set_option maxRecDepth 100000 in
theorem zfds_9 : zfdOK (4, 1, 3, 20, 24, true) := ⟨(RX3, TX3, 5), rfl, by decide, by decide, ⟨_, tyX3_ok 1 (by decide), by first | rfl | (show FieldType.isReference _ = true; rfl)⟩, rfl⟩
set_option maxRecDepth 100000 in
theorem zfds_10 : zfdOK (4, 2, 3, 6, 1, true) := ⟨(RX3, TX3, 5), rfl, by decide, by decide, ⟨_, tyX3_ok 2 (by decide), by first | rfl | (show FieldType.isReference _ = true; rfl)⟩, rfl⟩
set_option maxRecDepth 100000 in
theorem zfds_11 : zfdOK (4, 3, 3, 5, 2, true) := ⟨(RX3, TX3, 5), rfl, by decide, by decide, ⟨_, tyX3_ok 3 (by decide), by first | rfl | (show FieldType.isReference _ = true; rfl)⟩, rfl⟩
set_option maxRecDepth 100000 in
theorem zfds_12 : zfdOK (4, 4, 3, 9, 3, true) := ⟨(RX3, TX3, 5), rfl, by decide, by decide, ⟨_, tyX3_ok 4 (by decide), by first | rfl | (show FieldType.isReference _ = true; rfl)⟩, rfl⟩
set_option maxRecDepth 100000 in
theorem zfds_13 : zfdOK (5, 0, 3, 20, 24, true) := ⟨(RX4, TX4, 2), rfl, by decide, by decide, ⟨_, tyX4_ok 0 (by decide), by first | rfl | (show FieldType.isReference _ = true; rfl)⟩, rfl⟩
set_option maxRecDepth 100000 in
theorem zfds_14 : zfdOK (5, 1, 3, 30, 8, true) := ⟨(RX4, TX4, 2), rfl, by decide, by decide, ⟨_, tyX4_ok 1 (by decide), by first | rfl | (show FieldType.isReference _ = true; rfl)⟩, rfl⟩
set_option maxRecDepth 100000 in
theorem zfds_15 : zfdOK (6, 0, 3, 21, 64, true) := ⟨(RX5, TX5, 1), rfl, by decide, by decide, ⟨_, tyX5_ok 0 (by decide), by first | rfl | (show FieldType.isReference _ = true; rfl)⟩, rfl⟩
set_option maxRecDepth 100000 in
theorem zfds_16 : zfdOK (7, 0, 3, 20, 250, true) := ⟨(RX6, TX6, 11), rfl, by decide, by decide, ⟨_, tyX6_ok 0 (by decide), by first | rfl | (show FieldType.isReference _ = true; rfl)⟩, rfl⟩
set_option maxRecDepth 100000 in
theorem zfds_17 : zfdOK (7, 1, 1, 0, 0, false) := ⟨(RX6, TX6, 11), rfl, by decide, by decide, ⟨_, tyX6_ok 1 (by decide), by first | rfl | (show FieldType.isReference _ = true; rfl)⟩, rfl⟩
set_option maxRecDepth 100000 in
theorem zfds_18 : zfdOK (7, 2, 1, 0, 0, false) := ⟨(RX6, TX6, 11), rfl, by decide, by decide, ⟨_, tyX6_ok 2 (by decide), by first | rfl | (show FieldType.isReference _ = true; rfl)⟩, rfl⟩
set_option maxRecDepth 100000 in
theorem zfds_19 : zfdOK (7, 3, 1, 0, 0, false) := ⟨(RX6, TX6, 11), rfl, by decide, by decide, ⟨_, tyX6_ok 3 (by decide), by first | rfl | (show FieldType.isReference _ = true; rfl)⟩, rfl⟩
set_option maxRecDepth 100000 in
theorem zfds_20 : zfdOK (7, 4, 1, 0, 0, false) := ⟨(RX6, TX6, 11), rfl, by decide, by decide, ⟨_, tyX6_ok 4 (by decide), by first | rfl | (show FieldType.isReference _ = true; rfl)⟩, rfl⟩
set_option maxRecDepth 100000 in
theorem zfds_21 : zfdOK (7, 5, 1, 0, 0, false) := ⟨(RX6, TX6, 11), rfl, by decide, by decide, ⟨_, tyX6_ok 5 (by decide), by first | rfl | (show FieldType.isReference _ = true; rfl)⟩, rfl⟩
set_option maxRecDepth 100000 in
theorem zfds_22 : zfdOK (7, 6, 3, 20, 64, true) := ⟨(RX6, TX6, 11), rfl, by decide, by decide, ⟨_, tyX6_ok 6 (by decide), by first | rfl | (show FieldType.isReference _ = true; rfl)⟩, rfl⟩
set_option maxRecDepth 100000 in
theorem zfds_23 : zfdOK (7, 7, 3, 20, 64, true) := ⟨(RX6, TX6, 11), rfl, by decide, by decide, ⟨_, tyX6_ok 7 (by decide), by first | rfl | (show FieldType.isReference _ = true; rfl)⟩, rfl⟩
set_option maxRecDepth 100000 in
theorem zfds_24 : zfdOK (7, 8, 3, 20, 64, true) := ⟨(RX6, TX6, 11), rfl, by decide, by decide, ⟨_, tyX6_ok 8 (by decide), by first | rfl | (show FieldType.isReference _ = true; rfl)⟩, rfl⟩
set_option maxRecDepth 100000 in
theorem zfds_25 : zfdOK (7, 9, 3, 20, 384, true) := ⟨(RX6, TX6, 11), rfl, by decide, by decide, ⟨_, tyX6_ok 9 (by decide), by first | rfl | (show FieldType.isReference _ = true; rfl)⟩, rfl⟩
set_option maxRecDepth 100000 in
theorem zfds_26 : zfdOK (7, 10, 3, 20, 6, true) := ⟨(RX6, TX6, 11), rfl, by decide, by decide, ⟨_, tyX6_ok 10 (by decide), by first | rfl | (show FieldType.isReference _ = true; rfl)⟩, rfl⟩
set_option maxRecDepth 100000 in
theorem zfds_27 : zfdOK (8, 0, 3, 20, 8, true) := ⟨(RX7, TX7, 3), rfl, by decide, by decide, ⟨_, tyX7_ok 0 (by decide), by first | rfl | (show FieldType.isReference _ = true; rfl)⟩, rfl⟩
set_option maxRecDepth 100000 in
theorem zfds_28 : zfdOK (8, 1, 3, 20, 8, true) := ⟨(RX7, TX7, 3), rfl, by decide, by decide, ⟨_, tyX7_ok 1 (by decide), by first | rfl | (show FieldType.isReference _ = true; rfl)⟩, rfl⟩
set_option maxRecDepth 100000 in
theorem zfds_29 : zfdOK (8, 2, 3, 21, 320, true) := ⟨(RX7, TX7, 3), rfl, by decide, by decide, ⟨_, tyX7_ok 2 (by decide), by first | rfl | (show FieldType.isReference _ = true; rfl)⟩, rfl⟩
set_option maxRecDepth 100000 in
theorem zfds_30 : zfdOK (9, 0, 3, 20, 48, true) := ⟨(RX8, TX8, 3), rfl, by decide, by decide, ⟨_, tyX8_ok 0 (by decide), by first | rfl | (show FieldType.isReference _ = true; rfl)⟩, rfl⟩
set_option maxRecDepth 100000 in
theorem zfds_31 : zfdOK (9, 1, 3, 30, 8, true) := ⟨(RX8, TX8, 3), rfl, by decide, by decide, ⟨_, tyX8_ok 1 (by decide), by first | rfl | (show FieldType.isReference _ = true; rfl)⟩, rfl⟩
set_option maxRecDepth 100000 in
theorem zfds_32 : zfdOK (9, 2, 3, 30, 8, true) := ⟨(RX8, TX8, 3), rfl, by decide, by decide, ⟨_, tyX8_ok 2 (by decide), by first | rfl | (show FieldType.isReference _ = true; rfl)⟩, rfl⟩
set_option maxRecDepth 100000 in
theorem zfds_33 : zfdOK (10, 0, 3, 20, 88, true) := ⟨(RX9, TX9, 8), rfl, by decide, by decide, ⟨_, tyX9_ok 0 (by decide), by first | rfl | (show FieldType.isReference _ = true; rfl)⟩, rfl⟩
set_option maxRecDepth 100000 in
theorem zfds_34 : zfdOK (10, 1, 3, 20, 88, true) := ⟨(RX9, TX9, 8), rfl, by decide, by decide, ⟨_, tyX9_ok 1 (by decide), by first | rfl | (show FieldType.isReference _ = true; rfl)⟩, rfl⟩
set_option maxRecDepth 100000 in
theorem zfds_35 : zfdOK (10, 2, 3, 20, 88, true) := ⟨(RX9, TX9, 8), rfl, by decide, by decide, ⟨_, tyX9_ok 2 (by decide), by first | rfl | (show FieldType.isReference _ = true; rfl)⟩, rfl⟩
set_option maxRecDepth 100000 in
theorem zfds_36 : zfdOK (10, 3, 3, 20, 88, true) := ⟨(RX9, TX9, 8), rfl, by decide, by decide, ⟨_, tyX9_ok 3 (by decide), by first | rfl | (show FieldType.isReference _ = true; rfl)⟩, rfl⟩
set_option maxRecDepth 100000 in
theorem zfds_37 : zfdOK (10, 4, 3, 20, 88, true) := ⟨(RX9, TX9, 8), rfl, by decide, by decide, ⟨_, tyX9_ok 4 (by decide), by first | rfl | (show FieldType.isReference _ = true; rfl)⟩, rfl⟩
set_option maxRecDepth 100000 in
theorem zfds_38 : zfdOK (10, 5, 3, 20, 88, true) := ⟨(RX9, TX9, 8), rfl, by decide, by decide, ⟨_, tyX9_ok 5 (by decide), by first | rfl | (show FieldType.isReference _ = true; rfl)⟩, rfl⟩
set_option maxRecDepth 100000 in
theorem zfds_39 : zfdOK (10, 6, 3, 20, 528, true) := ⟨(RX9, TX9, 8), rfl, by decide, by decide, ⟨_, tyX9_ok 6 (by decide), by first | rfl | (show FieldType.isReference _ = true; rfl)⟩, rfl⟩
set_option maxRecDepth 100000 in
theorem zfds_40 : zfdOK (10, 7, 1, 0, 0, false) := ⟨(RX9, TX9, 8), rfl, by decide, by decide, ⟨_, tyX9_ok 7 (by decide), by first | rfl | (show FieldType.isReference _ = true; rfl)⟩, rfl⟩
set_option maxRecDepth 100000 in
theorem zfds_41 : zfdOK (11, 0, 3, 6, 1, true) := ⟨(RX10, TX10, 8), rfl, by decide, by decide, ⟨_, tyX10_ok 0 (by decide), by first | rfl | (show FieldType.isReference _ = true; rfl)⟩, rfl⟩
set_option maxRecDepth 100000 in
theorem zfds_42 : zfdOK (11, 1, 3, 20, 4096, true) := ⟨(RX10, TX10, 8), rfl, by decide, by decide, ⟨_, tyX10_ok 1 (by decide), by first | rfl | (show FieldType.isReference _ = true; rfl)⟩, rfl⟩
set_option maxRecDepth 100000 in
theorem zfds_43 : zfdOK (11, 2, 1, 0, 0, false) := ⟨(RX10, TX10, 8), rfl, by decide, by decide, ⟨_, tyX10_ok 2 (by decide), by first | rfl | (show FieldType.isReference _ = true; rfl)⟩, rfl⟩
set_option maxRecDepth 100000 in
theorem zfds_44 : zfdOK (11, 3, 1, 0, 0, false) := ⟨(RX10, TX10, 8), rfl, by decide, by decide, ⟨_, tyX10_ok 3 (by decide), by first | rfl | (show FieldType.isReference _ = true; rfl)⟩, rfl⟩
set_option maxRecDepth 100000 in
theorem zfds_45 : zfdOK (11, 4, 1, 0, 0, false) := ⟨(RX10, TX10, 8), rfl, by decide, by decide, ⟨_, tyX10_ok 4 (by decide), by first | rfl | (show FieldType.isReference _ = true; rfl)⟩, rfl⟩
set_option maxRecDepth 100000 in
theorem zfds_46 : zfdOK (11, 5, 1, 0, 0, false) := ⟨(RX10, TX10, 8), rfl, by decide, by decide, ⟨_, tyX10_ok 5 (by decide), by first | rfl | (show FieldType.isReference _ = true; rfl)⟩, rfl⟩
set_option maxRecDepth 100000 in
theorem zfds_47 : zfdOK (11, 6, 1, 0, 0, false) := ⟨(RX10, TX10, 8), rfl, by decide, by decide, ⟨_, tyX10_ok 6 (by decide), by first | rfl | (show FieldType.isReference _ = true; rfl)⟩, rfl⟩
set_option maxRecDepth 100000 in
theorem zfds_48 : zfdOK (11, 7, 1, 0, 0, false) := ⟨(RX10, TX10, 8), rfl, by decide, by decide, ⟨_, tyX10_ok 7 (by decide), by first | rfl | (show FieldType.isReference _ = true; rfl)⟩, rfl⟩
set_option maxRecDepth 100000 in
theorem zfds_49 : zfdOK (12, 0, 3, 10, 8, true) := ⟨(RX11, TX11, 16), rfl, by decide, by decide, ⟨_, tyX11_ok 0 (by decide), by first | rfl | (show FieldType.isReference _ = true; rfl)⟩, rfl⟩
set_option maxRecDepth 100000 in
theorem zfds_50 : zfdOK (12, 1, 3, 10, 8, true) := ⟨(RX11, TX11, 16), rfl, by decide, by decide, ⟨_, tyX11_ok 1 (by decide), by first | rfl | (show FieldType.isReference _ = true; rfl)⟩, rfl⟩
set_option maxRecDepth 100000 in
theorem zfds_51 : zfdOK (12, 2, 3, 1, 6, true) := ⟨(RX11, TX11, 16), rfl, by decide, by decide, ⟨_, tyX11_ok 2 (by decide), by first | rfl | (show FieldType.isReference _ = true; rfl)⟩, rfl⟩
set_option maxRecDepth 100000 in
theorem zfds_52 : zfdOK (12, 3, 3, 1, 6, true) := ⟨(RX11, TX11, 16), rfl, by decide, by decide, ⟨_, tyX11_ok 3 (by decide), by first | rfl | (show FieldType.isReference _ = true; rfl)⟩, rfl⟩
set_option maxRecDepth 100000 in
theorem zfds_53 : zfdOK (12, 4, 3, 8, 3, true) := ⟨(RX11, TX11, 16), rfl, by decide, by decide, ⟨_, tyX11_ok 4 (by decide), by first | rfl | (show FieldType.isReference _ = true; rfl)⟩, rfl⟩
set_option maxRecDepth 100000 in
theorem zfds_54 : zfdOK (12, 5, 3, 7, 11, true) := ⟨(RX11, TX11, 16), rfl, by decide, by decide, ⟨_, tyX11_ok 5 (by decide), by first | rfl | (show FieldType.isReference _ = true; rfl)⟩, rfl⟩
set_option maxRecDepth 100000 in
theorem zfds_55 : zfdOK (12, 6, 3, 4, 5, true) := ⟨(RX11, TX11, 16), rfl, by decide, by decide, ⟨_, tyX11_ok 6 (by decide), by first | rfl | (show FieldType.isReference _ = true; rfl)⟩, rfl⟩
set_option maxRecDepth 100000 in
theorem zfds_56 : zfdOK (12, 7, 3, 11, 8, true) := ⟨(RX11, TX11, 16), rfl, by decide, by decide, ⟨_, tyX11_ok 7 (by decide), by first | rfl | (show FieldType.isReference _ = true; rfl)⟩, rfl⟩
set_option maxRecDepth 100000 in
theorem zfds_57 : zfdOK (12, 8, 3, 5, 2, true) := ⟨(RX11, TX11, 16), rfl, by decide, by decide, ⟨_, tyX11_ok 8 (by decide), by first | rfl | (show FieldType.isReference _ = true; rfl)⟩, rfl⟩
set_option maxRecDepth 100000 in
theorem zfds_58 : zfdOK (12, 9, 3, 9, 3, true) := ⟨(RX11, TX11, 16), rfl, by decide, by decide, ⟨_, tyX11_ok 9 (by decide), by first | rfl | (show FieldType.isReference _ = true; rfl)⟩, rfl⟩
set_option maxRecDepth 100000 in
theorem zfds_59 : zfdOK (12, 10, 3, 6, 1, true) := ⟨(RX11, TX11, 16), rfl, by decide, by decide, ⟨_, tyX11_ok 10 (by decide), by first | rfl | (show FieldType.isReference _ = true; rfl)⟩, rfl⟩
set_option maxRecDepth 100000 in
theorem zfds_60 : zfdOK (12, 11, 3, 20, 6, true) := ⟨(RX11, TX11, 16), rfl, by decide, by decide, ⟨_, tyX11_ok 11 (by decide), by first | rfl | (show FieldType.isReference _ = true; rfl)⟩, rfl⟩
set_option maxRecDepth 100000 in
theorem zfds_61 : zfdOK (12, 12, 3, 20, 10, true) := ⟨(RX11, TX11, 16), rfl, by decide, by decide, ⟨_, tyX11_ok 12 (by decide), by first | rfl | (show FieldType.isReference _ = true; rfl)⟩, rfl⟩
set_option maxRecDepth 100000 in
theorem zfds_62 : zfdOK (12, 13, 3, 20, 5, true) := ⟨(RX11, TX11, 16), rfl, by decide, by decide, ⟨_, tyX11_ok 13 (by decide), by first | rfl | (show FieldType.isReference _ = true; rfl)⟩, rfl⟩
set_option maxRecDepth 100000 in
theorem zfds_63 : zfdOK (12, 14, 6, 0, 0, false) := ⟨(RX11, TX11, 16), rfl, by decide, by decide, ⟨_, tyX11_ok 14 (by decide), by first | rfl | (show FieldType.isReference _ = true; rfl)⟩, rfl⟩
set_option maxRecDepth 100000 in
theorem zfds_64 : zfdOK (12, 15, 1, 0, 0, false) := ⟨(RX11, TX11, 16), rfl, by decide, by decide, ⟨_, tyX11_ok 15 (by decide), by first | rfl | (show FieldType.isReference _ = true; rfl)⟩, rfl⟩
set_option maxRecDepth 100000 in
theorem zfds_65 : zfdOK (13, 0, 3, 20, 264, true) := ⟨(RX12, TX12, 32), rfl, by decide, by decide, ⟨_, tyX12_ok 0 (by decide), by first | rfl | (show FieldType.isReference _ = true; rfl)⟩, rfl⟩
set_option maxRecDepth 100000 in
theorem zfds_66 : zfdOK (13, 1, 1, 0, 0, false) := ⟨(RX12, TX12, 32), rfl, by decide, by decide, ⟨_, tyX12_ok 1 (by decide), by first | rfl | (show FieldType.isReference _ = true; rfl)⟩, rfl⟩
set_option maxRecDepth 100000 in
theorem zfds_67 : zfdOK (13, 2, 3, 20, 5, true) := ⟨(RX12, TX12, 32), rfl, by decide, by decide, ⟨_, tyX12_ok 2 (by decide), by first | rfl | (show FieldType.isReference _ = true; rfl)⟩, rfl⟩
set_option maxRecDepth 100000 in
theorem zfds_68 : zfdOK (13, 3, 3, 21, 9, true) := ⟨(RX12, TX12, 32), rfl, by decide, by decide, ⟨_, tyX12_ok 3 (by decide), by first | rfl | (show FieldType.isReference _ = true; rfl)⟩, rfl⟩
set_option maxRecDepth 100000 in
theorem zfds_69 : zfdOK (13, 4, 3, 21, 9, true) := ⟨(RX12, TX12, 32), rfl, by decide, by decide, ⟨_, tyX12_ok 4 (by decide), by first | rfl | (show FieldType.isReference _ = true; rfl)⟩, rfl⟩
set_option maxRecDepth 100000 in
theorem zfds_70 : zfdOK (13, 5, 3, 32, 4, true) := ⟨(RX12, TX12, 32), rfl, by decide, by decide, ⟨_, tyX12_ok 5 (by decide), by first | rfl | (show FieldType.isReference _ = true; rfl)⟩, rfl⟩
set_option maxRecDepth 100000 in
theorem zfds_71 : zfdOK (13, 6, 3, 22, 4096, true) := ⟨(RX12, TX12, 32), rfl, by decide, by decide, ⟨_, tyX12_ok 6 (by decide), by first | rfl | (show FieldType.isReference _ = true; rfl)⟩, rfl⟩
set_option maxRecDepth 100000 in
theorem zfds_72 : zfdOK (13, 7, 3, 20, 4096, true) := ⟨(RX12, TX12, 32), rfl, by decide, by decide, ⟨_, tyX12_ok 7 (by decide), by first | rfl | (show FieldType.isReference _ = true; rfl)⟩, rfl⟩
set_option maxRecDepth 100000 in
theorem zfds_73 : zfdOK (13, 8, 3, 20, 6, true) := ⟨(RX12, TX12, 32), rfl, by decide, by decide, ⟨_, tyX12_ok 8 (by decide), by first | rfl | (show FieldType.isReference _ = true; rfl)⟩, rfl⟩
set_option maxRecDepth 100000 in
theorem zfds_74 : zfdOK (13, 9, 3, 34, 13, true) := ⟨(RX12, TX12, 32), rfl, by decide, by decide, ⟨_, tyX12_ok 9 (by decide), by first | rfl | (show FieldType.isReference _ = true; rfl)⟩, rfl⟩
set_option maxRecDepth 100000 in
theorem zfds_75 : zfdOK (13, 10, 3, 20, 250, true) := ⟨(RX12, TX12, 32), rfl, by decide, by decide, ⟨_, tyX12_ok 10 (by decide), by first | rfl | (show FieldType.isReference _ = true; rfl)⟩, rfl⟩
set_option maxRecDepth 100000 in
theorem zfds_76 : zfdOK (13, 11, 1, 0, 0, false) := ⟨(RX12, TX12, 32), rfl, by decide, by decide, ⟨_, tyX12_ok 11 (by decide), by first | rfl | (show FieldType.isReference _ = true; rfl)⟩, rfl⟩
set_option maxRecDepth 100000 in
theorem zfds_77 : zfdOK (13, 12, 1, 0, 0, false) := ⟨(RX12, TX12, 32), rfl, by decide, by decide, ⟨_, tyX12_ok 12 (by decide), by first | rfl | (show FieldType.isReference _ = true; rfl)⟩, rfl⟩
set_option maxRecDepth 100000 in
theorem zfds_78 : zfdOK (13, 13, 1, 0, 0, false) := ⟨(RX12, TX12, 32), rfl, by decide, by decide, ⟨_, tyX12_ok 13 (by decide), by first | rfl | (show FieldType.isReference _ = true; rfl)⟩, rfl⟩
set_option maxRecDepth 100000 in
theorem zfds_79 : zfdOK (13, 14, 1, 0, 0, false) := ⟨(RX12, TX12, 32), rfl, by decide, by decide, ⟨_, tyX12_ok 14 (by decide), by first | rfl | (show FieldType.isReference _ = true; rfl)⟩, rfl⟩
set_option maxRecDepth 100000 in
theorem zfds_80 : zfdOK (13, 15, 1, 0, 0, false) := ⟨(RX12, TX12, 32), rfl, by decide, by decide, ⟨_, tyX12_ok 15 (by decide), by first | rfl | (show FieldType.isReference _ = true; rfl)⟩, rfl⟩
set_option maxRecDepth 100000 in
theorem zfds_81 : zfdOK (13, 16, 3, 20, 770, true) := ⟨(RX12, TX12, 32), rfl, by decide, by decide, ⟨_, tyX12_ok 16 (by decide), by first | rfl | (show FieldType.isReference _ = true; rfl)⟩, rfl⟩
set_option maxRecDepth 100000 in
theorem zfds_82 : zfdOK (13, 17, 1, 0, 0, false) := ⟨(RX12, TX12, 32), rfl, by decide, by decide, ⟨_, tyX12_ok 17 (by decide), by first | rfl | (show FieldType.isReference _ = true; rfl)⟩, rfl⟩
set_option maxRecDepth 100000 in
theorem zfds_83 : zfdOK (13, 18, 3, 20, 420, true) := ⟨(RX12, TX12, 32), rfl, by decide, by decide, ⟨_, tyX12_ok 18 (by decide), by first | rfl | (show FieldType.isReference _ = true; rfl)⟩, rfl⟩
set_option maxRecDepth 100000 in
theorem zfds_84 : zfdOK (13, 19, 3, 20, 8, true) := ⟨(RX12, TX12, 32), rfl, by decide, by decide, ⟨_, tyX12_ok 19 (by decide), by first | rfl | (show FieldType.isReference _ = true; rfl)⟩, rfl⟩
set_option maxRecDepth 100000 in
theorem zfds_85 : zfdOK (13, 20, 3, 20, 8, true) := ⟨(RX12, TX12, 32), rfl, by decide, by decide, ⟨_, tyX12_ok 20 (by decide), by first | rfl | (show FieldType.isReference _ = true; rfl)⟩, rfl⟩
set_option maxRecDepth 100000 in
theorem zfds_86 : zfdOK (13, 21, 3, 21, 320, true) := ⟨(RX12, TX12, 32), rfl, by decide, by decide, ⟨_, tyX12_ok 21 (by decide), by first | rfl | (show FieldType.isReference _ = true; rfl)⟩, rfl⟩
set_option maxRecDepth 100000 in
theorem zfds_87 : zfdOK (13, 22, 3, 22, 4096, true) := ⟨(RX12, TX12, 32), rfl, by decide, by decide, ⟨_, tyX12_ok 22 (by decide), by first | rfl | (show FieldType.isReference _ = true; rfl)⟩, rfl⟩
set_option maxRecDepth 100000 in
theorem zfds_88 : zfdOK (13, 23, 3, 33, 12, true) := ⟨(RX12, TX12, 32), rfl, by decide, by decide, ⟨_, tyX12_ok 23 (by decide), by first | rfl | (show FieldType.isReference _ = true; rfl)⟩, rfl⟩
set_option maxRecDepth 100000 in
theorem zfds_89 : zfdOK (13, 24, 1, 0, 0, false) := ⟨(RX12, TX12, 32), rfl, by decide, by decide, ⟨_, tyX12_ok 24 (by decide), by first | rfl | (show FieldType.isReference _ = true; rfl)⟩, rfl⟩
set_option maxRecDepth 100000 in
theorem zfds_90 : zfdOK (13, 25, 1, 0, 0, false) := ⟨(RX12, TX12, 32), rfl, by decide, by decide, ⟨_, tyX12_ok 25 (by decide), by first | rfl | (show FieldType.isReference _ = true; rfl)⟩, rfl⟩
set_option maxRecDepth 100000 in
theorem zfds_91 : zfdOK (13, 26, 1, 0, 0, false) := ⟨(RX12, TX12, 32), rfl, by decide, by decide, ⟨_, tyX12_ok 26 (by decide), by first | rfl | (show FieldType.isReference _ = true; rfl)⟩, rfl⟩
set_option maxRecDepth 100000 in
theorem zfds_92 : zfdOK (13, 27, 3, 20, 264, true) := ⟨(RX12, TX12, 32), rfl, by decide, by decide, ⟨_, tyX12_ok 27 (by decide), by first | rfl | (show FieldType.isReference _ = true; rfl)⟩, rfl⟩
set_option maxRecDepth 100000 in
theorem zfds_93 : zfdOK (13, 28, 3, 22, 4096, true) := ⟨(RX12, TX12, 32), rfl, by decide, by decide, ⟨_, tyX12_ok 28 (by decide), by first | rfl | (show FieldType.isReference _ = true; rfl)⟩, rfl⟩
set_option maxRecDepth 100000 in
theorem zfds_94 : zfdOK (13, 29, 3, 32, 12, true) := ⟨(RX12, TX12, 32), rfl, by decide, by decide, ⟨_, tyX12_ok 29 (by decide), by first | rfl | (show FieldType.isReference _ = true; rfl)⟩, rfl⟩
set_option maxRecDepth 100000 in
theorem zfds_95 : zfdOK (13, 30, 3, 20, 4, true) := ⟨(RX12, TX12, 32), rfl, by decide, by decide, ⟨_, tyX12_ok 30 (by decide), by first | rfl | (show FieldType.isReference _ = true; rfl)⟩, rfl⟩
set_option maxRecDepth 100000 in
theorem zfds_96 : zfdOK (13, 31, 6, 0, 0, false) := ⟨(RX12, TX12, 32), rfl, by decide, by decide, ⟨_, tyX12_ok 31 (by decide), by first | rfl | (show FieldType.isReference _ = true; rfl)⟩, rfl⟩
noncomputable def zfds : List (Nat × Nat × Nat × Int × Int × Bool) := [(1, 0, 3, 6, 1, true), (1, 1, 3, 31, 12, true), (1, 2, 1, 0, 0, false), (1, 3, 1, 0, 0, false), (1, 4, 1, 0, 0, false), (1, 5, 1, 0, 0, false), (2, 0, 2, 0, 0, false), (2, 1, 2, 0, 0, false), (4, 0, 3, 31, 24, true), (4, 1, 3, 20, 24, true), (4, 2, 3, 6, 1, true), (4, 3, 3, 5, 2, true), (4, 4, 3, 9, 3, true), (5, 0, 3, 20, 24, true), (5, 1, 3, 30, 8, true), (6, 0, 3, 21, 64, true), (7, 0, 3, 20, 250, true), (7, 1, 1, 0, 0, false), (7, 2, 1, 0, 0, false), (7, 3, 1, 0, 0, false), (7, 4, 1, 0, 0, false), (7, 5, 1, 0, 0, false), (7, 6, 3, 20, 64, true), (7, 7, 3, 20, 64, true), (7, 8, 3, 20, 64, true), (7, 9, 3, 20, 384, true), (7, 10, 3, 20, 6, true), (8, 0, 3, 20, 8, true), (8, 1, 3, 20, 8, true), (8, 2, 3, 21, 320, true), (9, 0, 3, 20, 48, true), (9, 1, 3, 30, 8, true), (9, 2, 3, 30, 8, true), (10, 0, 3, 20, 88, true), (10, 1, 3, 20, 88, true), (10, 2, 3, 20, 88, true), (10, 3, 3, 20, 88, true), (10, 4, 3, 20, 88, true), (10, 5, 3, 20, 88, true), (10, 6, 3, 20, 528, true), (10, 7, 1, 0, 0, false), (11, 0, 3, 6, 1, true), (11, 1, 3, 20, 4096, true), (11, 2, 1, 0, 0, false), (11, 3, 1, 0, 0, false), (11, 4, 1, 0, 0, false), (11, 5, 1, 0, 0, false), (11, 6, 1, 0, 0, false), (11, 7, 1, 0, 0, false), (12, 0, 3, 10, 8, true), (12, 1, 3, 10, 8, true), (12, 2, 3, 1, 6, true), (12, 3, 3, 1, 6, true), (12, 4, 3, 8, 3, true), (12, 5, 3, 7, 11, true), (12, 6, 3, 4, 5, true), (12, 7, 3, 11, 8, true), (12, 8, 3, 5, 2, true), (12, 9, 3, 9, 3, true), (12, 10, 3, 6, 1, true), (12, 11, 3, 20, 6, true), (12, 12, 3, 20, 10, true), (12, 13, 3, 20, 5, true), (12, 14, 6, 0, 0, false), (12, 15, 1, 0, 0, false), (13, 0, 3, 20, 264, true), (13, 1, 1, 0, 0, false), (13, 2, 3, 20, 5, true), (13, 3, 3, 21, 9, true), (13, 4, 3, 21, 9, true), (13, 5, 3, 32, 4, true), (13, 6, 3, 22, 4096, true), (13, 7, 3, 20, 4096, true), (13, 8, 3, 20, 6, true), (13, 9, 3, 34, 13, true), (13, 10, 3, 20, 250, true), (13, 11, 1, 0, 0, false), (13, 12, 1, 0, 0, false), (13, 13, 1, 0, 0, false), (13, 14, 1, 0, 0, false), (13, 15, 1, 0, 0, false), (13, 16, 3, 20, 770, true), (13, 17, 1, 0, 0, false), (13, 18, 3, 20, 420, true), (13, 19, 3, 20, 8, true), (13, 20, 3, 20, 8, true), (13, 21, 3, 21, 320, true), (13, 22, 3, 22, 4096, true), (13, 23, 3, 33, 12, true), (13, 24, 1, 0, 0, false), (13, 25, 1, 0, 0, false), (13, 26, 1, 0, 0, false), (13, 27, 3, 20, 264, true), (13, 28, 3, 22, 4096, true), (13, 29, 3, 32, 12, true), (13, 30, 3, 20, 4, true), (13, 31, 6, 0, 0, false)]
theorem zfds_ok : ∀ q ∈ zfds, zfdOK q := List.forall_mem_cons.mpr ⟨zfds_0, List.forall_mem_cons.mpr ⟨zfds_1, List.forall_mem_cons.mpr ⟨zfds_2, List.forall_mem_cons.mpr ⟨zfds_3, List.forall_mem_cons.mpr ⟨zfds_4, List.forall_mem_cons.mpr ⟨zfds_5, List.forall_mem_cons.mpr ⟨zfds_6, List.forall_mem_cons.mpr ⟨zfds_7, List.forall_mem_cons.mpr ⟨zfds_8, List.forall_mem_cons.mpr ⟨zfds_9, List.forall_mem_cons.mpr ⟨zfds_10, List.forall_mem_cons.mpr ⟨zfds_11, List.forall_mem_cons.mpr ⟨zfds_12, List.forall_mem_cons.mpr ⟨zfds_13, List.forall_mem_cons.mpr ⟨zfds_14, List.forall_mem_cons.mpr ⟨zfds_15, List.forall_mem_cons.mpr ⟨zfds_16, List.forall_mem_cons.mpr ⟨zfds_17, List.forall_mem_cons.mpr ⟨zfds_18, List.forall_mem_cons.mpr ⟨zfds_19, List.forall_mem_cons.mpr ⟨zfds_20, List.forall_mem_cons.mpr ⟨zfds_21, List.forall_mem_cons.mpr ⟨zfds_22, List.forall_mem_cons.mpr ⟨zfds_23, List.forall_mem_cons.mpr ⟨zfds_24, List.forall_mem_cons.mpr ⟨zfds_25, List.forall_mem_cons.mpr ⟨zfds_26, List.forall_mem_cons.mpr ⟨zfds_27, List.forall_mem_cons.mpr ⟨zfds_28, List.forall_mem_cons.mpr ⟨zfds_29, List.forall_mem_cons.mpr ⟨zfds_30, List.forall_mem_cons.mpr ⟨zfds_31, List.forall_mem_cons.mpr ⟨zfds_32, List.forall_mem_cons.mpr ⟨zfds_33, List.forall_mem_cons.mpr ⟨zfds_34, List.forall_mem_cons.mpr ⟨zfds_35, List.forall_mem_cons.mpr ⟨zfds_36, List.forall_mem_cons.mpr ⟨zfds_37, List.forall_mem_cons.mpr ⟨zfds_38, List.forall_mem_cons.mpr ⟨zfds_39, List.forall_mem_cons.mpr ⟨zfds_40, List.forall_mem_cons.mpr ⟨zfds_41, List.forall_mem_cons.mpr ⟨zfds_42, List.forall_mem_cons.mpr ⟨zfds_43, List.forall_mem_cons.mpr ⟨zfds_44, List.forall_mem_cons.mpr ⟨zfds_45, List.forall_mem_cons.mpr ⟨zfds_46, List.forall_mem_cons.mpr ⟨zfds_47, List.forall_mem_cons.mpr ⟨zfds_48, List.forall_mem_cons.mpr ⟨zfds_49, List.forall_mem_cons.mpr ⟨zfds_50, List.forall_mem_cons.mpr ⟨zfds_51, List.forall_mem_cons.mpr ⟨zfds_52, List.forall_mem_cons.mpr ⟨zfds_53, List.forall_mem_cons.mpr ⟨zfds_54, List.forall_mem_cons.mpr ⟨zfds_55, List.forall_mem_cons.mpr ⟨zfds_56, List.forall_mem_cons.mpr ⟨zfds_57, List.forall_mem_cons.mpr ⟨zfds_58, List.forall_mem_cons.mpr ⟨zfds_59, List.forall_mem_cons.mpr ⟨zfds_60, List.forall_mem_cons.mpr ⟨zfds_61, List.forall_mem_cons.mpr ⟨zfds_62, List.forall_mem_cons.mpr ⟨zfds_63, List.forall_mem_cons.mpr ⟨zfds_64, List.forall_mem_cons.mpr ⟨zfds_65, List.forall_mem_cons.mpr ⟨zfds_66, List.forall_mem_cons.mpr ⟨zfds_67, List.forall_mem_cons.mpr ⟨zfds_68, List.forall_mem_cons.mpr ⟨zfds_69, List.forall_mem_cons.mpr ⟨zfds_70, List.forall_mem_cons.mpr ⟨zfds_71, List.forall_mem_cons.mpr ⟨zfds_72, List.forall_mem_cons.mpr ⟨zfds_73, List.forall_mem_cons.mpr ⟨zfds_74, List.forall_mem_cons.mpr ⟨zfds_75, List.forall_mem_cons.mpr ⟨zfds_76, List.forall_mem_cons.mpr ⟨zfds_77, List.forall_mem_cons.mpr ⟨zfds_78, List.forall_mem_cons.mpr ⟨zfds_79, List.forall_mem_cons.mpr ⟨zfds_80, List.forall_mem_cons.mpr ⟨zfds_81, List.forall_mem_cons.mpr ⟨zfds_82, List.forall_mem_cons.mpr ⟨zfds_83, List.forall_mem_cons.mpr ⟨zfds_84, List.forall_mem_cons.mpr ⟨zfds_85, List.forall_mem_cons.mpr ⟨zfds_86, List.forall_mem_cons.mpr ⟨zfds_87, List.forall_mem_cons.mpr ⟨zfds_88, List.forall_mem_cons.mpr ⟨zfds_89, List.forall_mem_cons.mpr ⟨zfds_90, List.forall_mem_cons.mpr ⟨zfds_91, List.forall_mem_cons.mpr ⟨zfds_92, List.forall_mem_cons.mpr ⟨zfds_93, List.forall_mem_cons.mpr ⟨zfds_94, List.forall_mem_cons.mpr ⟨zfds_95, List.forall_mem_cons.mpr ⟨zfds_96, fun _ h => absurd h List.not_mem_nil⟩⟩⟩⟩⟩⟩⟩⟩⟩⟩⟩⟩⟩⟩⟩⟩⟩⟩⟩⟩⟩⟩⟩⟩⟩⟩⟩⟩⟩⟩⟩⟩⟩⟩⟩⟩⟩⟩⟩⟩⟩⟩⟩⟩⟩⟩⟩⟩⟩⟩⟩⟩⟩⟩⟩⟩⟩⟩⟩⟩⟩⟩⟩⟩⟩⟩⟩⟩⟩⟩⟩⟩⟩⟩⟩⟩⟩⟩⟩⟩⟩⟩⟩⟩⟩⟩⟩⟩⟩⟩⟩⟩⟩⟩⟩⟩⟩
def zobjOK (q : Nat × Nat) : Prop := Jvm.Cond.methodLink (zcnOf q.1) q.2 Lib.objectInit ∈ lw_tbl
set_option maxRecDepth 100000 in
theorem zobjs_0 : zobjOK (1, 1) := zsub_1 (List.mem_of_getElem? (i := 66) rfl)
set_option maxRecDepth 100000 in
theorem zobjs_1 : zobjOK (2, 1) := zsub_1 (List.mem_of_getElem? (i := 174) rfl)
set_option maxRecDepth 100000 in
theorem zobjs_2 : zobjOK (4, 3) := zsub_1 (List.mem_of_getElem? (i := 159) rfl)
set_option maxRecDepth 100000 in
theorem zobjs_3 : zobjOK (5, 3) := zsub_1 (List.mem_of_getElem? (i := 167) rfl)
set_option maxRecDepth 100000 in
theorem zobjs_4 : zobjOK (6, 3) := zsub_1 (List.mem_of_getElem? (i := 72) rfl)
set_option maxRecDepth 100000 in
theorem zobjs_5 : zobjOK (7, 3) := zsub_1 (List.mem_of_getElem? (i := 119) rfl)
set_option maxRecDepth 100000 in
theorem zobjs_6 : zobjOK (8, 3) := zsub_1 (List.mem_of_getElem? (i := 103) rfl)
set_option maxRecDepth 100000 in
theorem zobjs_7 : zobjOK (9, 3) := zsub_1 (List.mem_of_getElem? (i := 194) rfl)
set_option maxRecDepth 100000 in
theorem zobjs_8 : zobjOK (10, 3) := zsub_1 (List.mem_of_getElem? (i := 34) rfl)
set_option maxRecDepth 100000 in
theorem zobjs_9 : zobjOK (11, 3) := zsub_1 (List.mem_of_getElem? (i := 228) rfl)
set_option maxRecDepth 100000 in
theorem zobjs_10 : zobjOK (12, 3) := zsub_1 (List.mem_of_getElem? (i := 26) rfl)
set_option maxRecDepth 100000 in
theorem zobjs_11 : zobjOK (13, 1) := zsub_6 (List.mem_of_getElem? (i := 57) rfl)
noncomputable def zobjs : List (Nat × Nat) := [(1, 1), (2, 1), (4, 3), (5, 3), (6, 3), (7, 3), (8, 3), (9, 3), (10, 3), (11, 3), (12, 3), (13, 1)]
theorem zobjs_ok : ∀ q ∈ zobjs, zobjOK q := List.forall_mem_cons.mpr ⟨zobjs_0, List.forall_mem_cons.mpr ⟨zobjs_1, List.forall_mem_cons.mpr ⟨zobjs_2, List.forall_mem_cons.mpr ⟨zobjs_3, List.forall_mem_cons.mpr ⟨zobjs_4, List.forall_mem_cons.mpr ⟨zobjs_5, List.forall_mem_cons.mpr ⟨zobjs_6, List.forall_mem_cons.mpr ⟨zobjs_7, List.forall_mem_cons.mpr ⟨zobjs_8, List.forall_mem_cons.mpr ⟨zobjs_9, List.forall_mem_cons.mpr ⟨zobjs_10, List.forall_mem_cons.mpr ⟨zobjs_11, fun _ h => absurd h List.not_mem_nil⟩⟩⟩⟩⟩⟩⟩⟩⟩⟩⟩⟩
def zcpyOK (q : Nat × Nat) : Prop := Jvm.Cond.methodLink (zcnOf q.1) q.2 arraycopyName ∈ lw_tbl
set_option maxRecDepth 100000 in
theorem zcpys_0 : zcpyOK (7, 88) := zsub_4 (List.mem_of_getElem? (i := 146) rfl)
set_option maxRecDepth 100000 in
theorem zcpys_1 : zcpyOK (8, 38) := zsub_2 (List.mem_of_getElem? (i := 129) rfl)
set_option maxRecDepth 100000 in
theorem zcpys_2 : zcpyOK (10, 66) := zsub_6 (List.mem_of_getElem? (i := 27) rfl)
noncomputable def zcpys : List (Nat × Nat) := [(7, 88), (8, 38), (10, 66)]
theorem zcpys_ok : ∀ q ∈ zcpys, zcpyOK q := List.forall_mem_cons.mpr ⟨zcpys_0, List.forall_mem_cons.mpr ⟨zcpys_1, List.forall_mem_cons.mpr ⟨zcpys_2, fun _ h => absurd h List.not_mem_nil⟩⟩⟩
