set_option maxRecDepth 100000 in
theorem eX12_is (w : zW) (d : Nat) (x1 x2 x3 : Int) (σ : zMem) : zcall w d 213 [zJ x1, zJ x2, zJ x3] σ =
  if (zar 22 x1 x2) < 0 then some (0, σ) else if 0 < (zar 22 x1 x3) then some (0, σ) else some (1, σ) :=
  (zcall_eq rfl).trans (zunr_eq w zc_X12_is [] d 213 rfl 62 _ _ _ _).symm
set_option maxRecDepth 100000 in
theorem eX12_refused (w : zW) (d : Nat) (x1 : Int) (σ : zMem) : zcall w d 214 [zA 13 32 209, zI x1] σ =
  if (0 : Int) ≤ (zar 1 (zar 5 x1 0) 62) ∧ (zar 1 (zar 5 x1 0) 62) < 5 then if (0 : Int) ≤ (zar 1 (zar 5 x1 0) 62) ∧ (zar 1 (zar 5 x1 0) 62) < 5 then some (x1, zup σ 211 (zar 1 (zar 5 x1 0) 62) (zar 0 (σ 211 (zar 1 (zar 5 x1 0) 62)) 1)) else none else none :=
  (zcall_eq rfl).trans (zunr_eq w zc_X12_refused [] d 214 rfl 63 _ _ _ _).symm
set_option maxRecDepth 100000 in
theorem eX12_refusedLong (w : zW) (d : Nat) (x1 : Int) (σ : zMem) : zcall w (d + 1) 215 [zA 13 32 209, zI x1] σ =
  (zcall w d 214 [zA 13 32 209, zI x1] σ).bind fun r1 => some (zar 13 r1.1 9000000000000, r1.2) :=
  (zcall_eq rfl).trans (zunr_eq w zc_X12_refusedLong [] (d + 1) 215 rfl 57 _ _ _ _).symm
set_option maxRecDepth 100000 in
theorem eX12_of (w : zW) (d : Nat) (x1 x2 : Int) (σ : zMem) : zcall w d 216 [zA 13 32 209, zI x1, zI x2] σ =
  if (0 : Int) ≤ (zar 0 (zar 2 11 x1) x2) ∧ (zar 0 (zar 2 11 x1) x2) < 264 then some (σ 210 (zar 0 (zar 2 11 x1) x2), σ) else none :=
  (zcall_eq rfl).trans (zunr_eq w zc_X12_of [] d 216 rfl 59 _ _ _ _).symm
set_option maxRecDepth 100000 in
theorem eX12_number (w : zW) (d : Nat) (x1 x2 : Int) (σ : zMem) : zcall w d 217 [zA 13 32 209, zI x1, zI x2] σ =
  if (0 : Int) ≤ (zar 0 (zar 0 (zar 2 11 x1) 5) x2) ∧ (zar 0 (zar 0 (zar 2 11 x1) 5) x2) < 264 then some (σ 210 (zar 0 (zar 0 (zar 2 11 x1) 5) x2), σ) else none :=
  (zcall_eq rfl).trans (zunr_eq w zc_X12_number [] d 217 rfl 61 _ _ _ _).symm
set_option maxRecDepth 100000 in
theorem eX12_isShape (w : zW) (d : Nat) (x1 : Int) (σ : zMem) : zcall w (d + 1) 218 [zA 13 32 209, zI x1] σ =
  (zcall w d 213 [zJ x1, zJ 0, zJ (zar 1 (σ 209 1) 1)] σ).bind fun r1 => if 0 ≤ r1.1 ∧ r1.1 ≤ 1 then some (r1.1, r1.2) else none :=
  (zcall_eq rfl).trans (zunr_eq w zc_X12_isShape [] (d + 1) 218 rfl 60 _ _ _ _).symm
set_option maxRecDepth 100000 in
theorem eX12_worthAt (w : zW) (d : Nat) (x1 x2 x3 x4 : Int) (σ : zMem) : zcall w (d + 1) 219 [zA 13 32 209, zI x1, zI x2, zI x3, zI x4] σ =
  (zcall w d 216 [zA 13 32 209, zI x1, zI 0] σ).bind fun r1 => if r1.1 = 3 then zden w (d + 1) 219 5 [zA 13 32 209, zI x1, zI x2, zI x3, zI x4, zU, zU, zU, zU, zU, zU, zU, zU] [] r1.2 else if r1.1 = 4 then zden w (d + 1) 219 53 [zA 13 32 209, zI x1, zI x2, zI x3, zI x4, zU, zU, zU, zU, zU, zU, zU, zU] [] r1.2 else if r1.1 = 5 then zden w (d + 1) 219 73 [zA 13 32 209, zI x1, zI x2, zI x3, zI x4, zU, zU, zU, zU, zU, zU, zU, zU] [] r1.2 else if r1.1 = 6 then zden w (d + 1) 219 191 [zA 13 32 209, zI x1, zI x2, zI x3, zI x4, zU, zU, zU, zU, zU, zU, zU, zU] [] r1.2 else if r1.1 = 7 then zden w (d + 1) 219 191 [zA 13 32 209, zI x1, zI x2, zI x3, zI x4, zU, zU, zU, zU, zU, zU, zU, zU] [] r1.2 else if r1.1 = 8 then zden w (d + 1) 219 108 [zA 13 32 209, zI x1, zI x2, zI x3, zI x4, zU, zU, zU, zU, zU, zU, zU, zU] [] r1.2 else if r1.1 = 9 then zden w (d + 1) 219 128 [zA 13 32 209, zI x1, zI x2, zI x3, zI x4, zU, zU, zU, zU, zU, zU, zU, zU] [] r1.2 else if r1.1 = 10 then zden w (d + 1) 219 148 [zA 13 32 209, zI x1, zI x2, zI x3, zI x4, zU, zU, zU, zU, zU, zU, zU, zU] [] r1.2 else if r1.1 = 11 then zden w (d + 1) 219 169 [zA 13 32 209, zI x1, zI x2, zI x3, zI x4, zU, zU, zU, zU, zU, zU, zU, zU] [] r1.2 else zden w (d + 1) 219 191 [zA 13 32 209, zI x1, zI x2, zI x3, zI x4, zU, zU, zU, zU, zU, zU, zU, zU] [] r1.2 :=
  (zcall_eq rfl).trans (zunr_eq w zc_X12_worthAt [5, 53, 73, 108, 128, 148, 169, 191] (d + 1) 219 rfl 248 _ _ _ _).symm
set_option maxRecDepth 100000 in
theorem hX12_worthAt_5 (w : zW) (d : Nat) (x1 x2 x3 x4 : Int) (σ : zMem) : zden w (d + 1) 219 5 [zA 13 32 209, zI x1, zI x2, zI x3, zI x4, zU, zU, zU, zU, zU, zU, zU, zU] [] σ =
  (zcall w d 217 [zA 13 32 209, zI x1, zI 0] σ).bind fun r1 => (zcall w d 217 [zA 13 32 209, zI x1, zI 1] r1.2).bind fun r2 => (zcall w d 217 [zA 13 32 209, zI x1, zI 2] r2.2).bind fun r3 => (zcall w d 217 [zA 13 32 209, zI x1, zI 3] r3.2).bind fun r4 => some (zar 14 (zar 13 (zar 12 (zar 12 (zar 14 (zar 1 x2 r1.1) (zar 1 x2 r1.1)) (zar 14 (zar 1 x3 r2.1) (zar 1 x3 r2.1))) (zar 14 (zar 1 x4 r3.1) (zar 1 x4 r3.1))) (zar 14 r4.1 r4.1)) 16003008000, r4.2) :=
  (zunr_eq w zc_X12_worthAt [5, 53, 73, 108, 128, 148, 169, 191] (d + 1) 219 rfl 248 _ _ _ _).symm
set_option maxRecDepth 100000 in
theorem hX12_worthAt_53 (w : zW) (d : Nat) (x1 x2 x3 x4 : Int) (σ : zMem) : zden w (d + 1) 219 53 [zA 13 32 209, zI x1, zI x2, zI x3, zI x4, zU, zU, zU, zU, zU, zU, zU, zU] [] σ =
  (zcall w d 220 [zA 13 32 209, zI x1, zI 0, zI x2] σ).bind fun r1 => (zcall w d 220 [zA 13 32 209, zI x1, zI 1, zI x3] r1.2).bind fun r2 => (zcall w d 342 [zJ r1.1, zJ r2.1] r2.2).bind fun r3 => (zcall w d 220 [zA 13 32 209, zI x1, zI 2, zI x4] r3.2).bind fun r4 => (zcall w d 342 [zJ r3.1, zJ r4.1] r4.2).bind fun r5 => some (zar 14 16003008000 r5.1, r5.2) :=
  (zunr_eq w zc_X12_worthAt [5, 53, 73, 108, 128, 148, 169, 191] (d + 1) 219 rfl 248 _ _ _ _).symm
set_option maxRecDepth 100000 in
theorem hX12_worthAt_73 (w : zW) (d : Nat) (x1 x2 x3 x4 : Int) (σ : zMem) : zden w (d + 1) 219 73 [zA 13 32 209, zI x1, zI x2, zI x3, zI x4, zU, zU, zU, zU, zU, zU, zU, zU] [] σ =
  (zcall w d 217 [zA 13 32 209, zI x1, zI 0] σ).bind fun r1 => (zcall w d 217 [zA 13 32 209, zI x1, zI 1] r1.2).bind fun r2 => (zcall w d 217 [zA 13 32 209, zI x1, zI 2] r2.2).bind fun r3 => (zcall w d 217 [zA 13 32 209, zI x1, zI 3] r3.2).bind fun r4 => some (zar 14 16003008000 (zar 13 (zar 12 (zar 12 (zar 14 r1.1 x2) (zar 14 r2.1 x3)) (zar 14 r3.1 x4)) r4.1), r4.2) :=
  (zunr_eq w zc_X12_worthAt [5, 53, 73, 108, 128, 148, 169, 191] (d + 1) 219 rfl 248 _ _ _ _).symm
set_option maxRecDepth 100000 in
theorem hX12_worthAt_108 (w : zW) (d : Nat) (x1 x2 x3 x4 : Int) (σ : zMem) : zden w (d + 1) 219 108 [zA 13 32 209, zI x1, zI x2, zI x3, zI x4, zU, zU, zU, zU, zU, zU, zU, zU] [] σ =
  (zcall w d 216 [zA 13 32 209, zI x1, zI 1] σ).bind fun r1 => (zcall w d 219 [zA 13 32 209, zI r1.1, zI x2, zI x3, zI x4] r1.2).bind fun r2 => (zcall w d 216 [zA 13 32 209, zI x1, zI 2] r2.2).bind fun r3 => (zcall w d 219 [zA 13 32 209, zI r3.1, zI x2, zI x3, zI x4] r3.2).bind fun r4 => (zcall w d 344 [zJ r2.1, zJ r4.1] r4.2).bind fun r5 => some (r5.1, r5.2) :=
  (zunr_eq w zc_X12_worthAt [5, 53, 73, 108, 128, 148, 169, 191] (d + 1) 219 rfl 248 _ _ _ _).symm
set_option maxRecDepth 100000 in
theorem hX12_worthAt_128 (w : zW) (d : Nat) (x1 x2 x3 x4 : Int) (σ : zMem) : zden w (d + 1) 219 128 [zA 13 32 209, zI x1, zI x2, zI x3, zI x4, zU, zU, zU, zU, zU, zU, zU, zU] [] σ =
  (zcall w d 216 [zA 13 32 209, zI x1, zI 1] σ).bind fun r1 => (zcall w d 219 [zA 13 32 209, zI r1.1, zI x2, zI x3, zI x4] r1.2).bind fun r2 => (zcall w d 216 [zA 13 32 209, zI x1, zI 2] r2.2).bind fun r3 => (zcall w d 219 [zA 13 32 209, zI r3.1, zI x2, zI x3, zI x4] r3.2).bind fun r4 => (zcall w d 342 [zJ r2.1, zJ r4.1] r4.2).bind fun r5 => some (r5.1, r5.2) :=
  (zunr_eq w zc_X12_worthAt [5, 53, 73, 108, 128, 148, 169, 191] (d + 1) 219 rfl 248 _ _ _ _).symm
set_option maxRecDepth 100000 in
theorem hX12_worthAt_148 (w : zW) (d : Nat) (x1 x2 x3 x4 : Int) (σ : zMem) : zden w (d + 1) 219 148 [zA 13 32 209, zI x1, zI x2, zI x3, zI x4, zU, zU, zU, zU, zU, zU, zU, zU] [] σ =
  (zcall w d 216 [zA 13 32 209, zI x1, zI 1] σ).bind fun r1 => (zcall w d 219 [zA 13 32 209, zI r1.1, zI x2, zI x3, zI x4] r1.2).bind fun r2 => (zcall w d 216 [zA 13 32 209, zI x1, zI 2] r2.2).bind fun r3 => (zcall w d 219 [zA 13 32 209, zI r3.1, zI x2, zI x3, zI x4] r3.2).bind fun r4 => (zcall w d 342 [zJ r2.1, zJ (zar 16 r4.1 0)] r4.2).bind fun r5 => some (r5.1, r5.2) :=
  (zunr_eq w zc_X12_worthAt [5, 53, 73, 108, 128, 148, 169, 191] (d + 1) 219 rfl 248 _ _ _ _).symm
set_option maxRecDepth 100000 in
theorem hX12_worthAt_169 (w : zW) (d : Nat) (x1 x2 x3 x4 : Int) (σ : zMem) : zden w (d + 1) 219 169 [zA 13 32 209, zI x1, zI x2, zI x3, zI x4, zU, zU, zU, zU, zU, zU, zU, zU] [] σ =
  (zcall w d 216 [zA 13 32 209, zI x1, zI 1] σ).bind fun r1 => (zcall w d 219 [zA 13 32 209, zI r1.1, zI x2, zI x3, zI x4] r1.2).bind fun r2 => (zcall w d 216 [zA 13 32 209, zI x1, zI 2] r2.2).bind fun r3 => (zcall w d 219 [zA 13 32 209, zI r3.1, zI x2, zI x3, zI x4] r3.2).bind fun r4 => (zcall w d 221 [zA 13 32 209, zI x1, zJ r2.1, zJ r4.1] r4.2).bind fun r5 => some (r5.1, r5.2) :=
  (zunr_eq w zc_X12_worthAt [5, 53, 73, 108, 128, 148, 169, 191] (d + 1) 219 rfl 248 _ _ _ _).symm
set_option maxRecDepth 100000 in
theorem hX12_worthAt_191 (w : zW) (d : Nat) (x1 x2 x3 x4 : Int) (σ : zMem) : zden w (d + 1) 219 191 [zA 13 32 209, zI x1, zI x2, zI x3, zI x4, zU, zU, zU, zU, zU, zU, zU, zU] [] σ =
  (zcall w d 224 [zA 13 32 209, zI x1, zI x2, zI x3, zI x4] σ).bind fun r1 => some (r1.1, r1.2) :=
  (zunr_eq w zc_X12_worthAt [5, 53, 73, 108, 128, 148, 169, 191] (d + 1) 219 rfl 248 _ _ _ _).symm
set_option maxRecDepth 100000 in
theorem eX12_beyond (w : zW) (d : Nat) (x1 x2 x3 : Int) (σ : zMem) : zcall w (d + 1) 220 [zA 13 32 209, zI x1, zI x2, zI x3] σ =
  (zcall w d 217 [zA 13 32 209, zI x1, zI x2] σ).bind fun r1 => (zcall w d 217 [zA 13 32 209, zI x1, zI (zar 0 3 x2)] r1.2).bind fun r2 => (zcall w d 341 [zI (zar 1 r1.1 x3), zI (zar 1 x3 r2.1)] r2.2).bind fun r3 => some (r3.1, r3.2) :=
  (zcall_eq rfl).trans (zunr_eq w zc_X12_beyond [] (d + 1) 220 rfl 67 _ _ _ _).symm
set_option maxRecDepth 100000 in
theorem eX12_blended (w : zW) (d : Nat) (x1 x2 x3 : Int) (σ : zMem) : zcall w (d + 1) 221 [zA 13 32 209, zI x1, zJ x2, zJ x3] σ =
  (zcall w d 217 [zA 13 32 209, zI x1, zI 0] σ).bind fun r1 => (zcall w d 217 [zA 13 32 209, zI x1, zI 1] r1.2).bind fun r2 => if r1.1 = 0 then none else some (zar 15 (zar 12 (zar 14 x2 (zar 1 r1.1 r2.1)) (zar 14 x3 r2.1)) r1.1, r2.2) :=
  (zcall_eq rfl).trans (zunr_eq w zc_X12_blended [] (d + 1) 221 rfl 75 _ _ _ _).symm
set_option maxRecDepth 100000 in
theorem eX12_grownBy (w : zW) (d : Nat) (x1 : Int) (σ : zMem) : zcall w (d + 1) 222 [zA 13 32 209, zI x1] σ =
  (zcall w d 217 [zA 13 32 209, zI x1, zI 1] σ).bind fun r1 => if r1.1 = 0 then none else (zcall w d 217 [zA 13 32 209, zI x1, zI 0] r1.2).bind fun r2 => some (zar 14 (zar 15 16003008000 r1.1) r2.1, r2.2) :=
  (zcall_eq rfl).trans (zunr_eq w zc_X12_grownBy [] (d + 1) 222 rfl 64 _ _ _ _).symm
set_option maxRecDepth 100000 in
theorem eX12_pick (w : zW) (d : Nat) (x1 x2 x3 x4 : Int) (σ : zMem) : zcall w d 223 [zI x1, zI x2, zI x3, zI x4] σ =
  if x1 = 0 then some (x2, σ) else if x1 = 1 then some (x3, σ) else some (x4, σ) :=
  (zcall_eq rfl).trans (zunr_eq w zc_X12_pick [] d 223 rfl 61 _ _ _ _).symm
set_option maxRecDepth 100000 in
theorem eX12_changed (w : zW) (d : Nat) (x1 x2 x3 x4 : Int) (σ : zMem) : zcall w (d + 1) 224 [zA 13 32 209, zI x1, zI x2, zI x3, zI x4] σ =
  (zcall w d 216 [zA 13 32 209, zI x1, zI 1] σ).bind fun r1 => (zcall w d 217 [zA 13 32 209, zI x1, zI 0] r1.2).bind fun r2 => (zcall w d 217 [zA 13 32 209, zI x1, zI 1] r2.2).bind fun r3 => (zcall w d 216 [zA 13 32 209, zI x1, zI 0] r3.2).bind fun r4 => if r4.1 = 12 then zden w (d + 1) 224 20 [zA 13 32 209, zI x1, zI x2, zI x3, zI x4, zI r1.1, zI r2.1, zI r3.1, zU, zU] [] r4.2 else if r4.1 = 13 then zden w (d + 1) 224 36 [zA 13 32 209, zI x1, zI x2, zI x3, zI x4, zI r1.1, zI r2.1, zI r3.1, zU, zU] [] r4.2 else if r4.1 = 14 then zden w (d + 1) 224 63 [zA 13 32 209, zI x1, zI x2, zI x3, zI x4, zI r1.1, zI r2.1, zI r3.1, zU, zU] [] r4.2 else if r4.1 = 15 then zden w (d + 1) 224 105 [zA 13 32 209, zI x1, zI x2, zI x3, zI x4, zI r1.1, zI r2.1, zI r3.1, zU, zU] [] r4.2 else if r4.1 = 16 then zden w (d + 1) 224 152 [zA 13 32 209, zI x1, zI x2, zI x3, zI x4, zI r1.1, zI r2.1, zI r3.1, zU, zU] [] r4.2 else zden w (d + 1) 224 163 [zA 13 32 209, zI x1, zI x2, zI x3, zI x4, zI r1.1, zI r2.1, zI r3.1, zU, zU] [] r4.2 :=
  (zcall_eq rfl).trans (zunr_eq w zc_X12_changed [20, 36, 45, 53, 61, 63, 76, 77, 89, 90, 102, 103, 105, 128, 139, 150, 152, 163] (d + 1) 224 rfl 225 _ _ _ _).symm
set_option maxRecDepth 100000 in
theorem hX12_changed_20 (w : zW) (d : Nat) (x1 x2 x3 x4 x5 x6 x7 : Int) (σ : zMem) : zden w (d + 1) 224 20 [zA 13 32 209, zI x1, zI x2, zI x3, zI x4, zI x5, zI x6, zI x7, zU, zU] [] σ =
  (zcall w d 217 [zA 13 32 209, zI x1, zI 2] σ).bind fun r1 => (zcall w d 219 [zA 13 32 209, zI x5, zI (zar 1 x2 x6), zI (zar 1 x3 x7), zI (zar 1 x4 r1.1)] r1.2).bind fun r2 => some (r2.1, r2.2) :=
  (zunr_eq w zc_X12_changed [20, 36, 45, 53, 61, 63, 76, 77, 89, 90, 102, 103, 105, 128, 139, 150, 152, 163] (d + 1) 224 rfl 225 _ _ _ _).symm
set_option maxRecDepth 100000 in
theorem hX12_changed_36 (w : zW) (d : Nat) (x2 x3 x4 x5 x6 x7 : Int) (v1 : zV) (σ : zMem) : zden w (d + 1) 224 36 [zA 13 32 209, v1, zI x2, zI x3, zI x4, zI x5, zI x6, zI x7, zU, zU] [] σ =
  if x6 = 0 then (zcall w d 339 [zI x2, zI x7] σ).bind fun r1 => zden w (d + 1) 224 45 [zA 13 32 209, v1, zI x2, zI x3, zI x4, zI x5, zI x6, zI x7, zU, zU] [zI r1.1, zI x5, zA 13 32 209] r1.2 else zden w (d + 1) 224 45 [zA 13 32 209, v1, zI x2, zI x3, zI x4, zI x5, zI x6, zI x7, zU, zU] [zI x2, zI x5, zA 13 32 209] σ :=
  (zunr_eq w zc_X12_changed [20, 36, 45, 53, 61, 63, 76, 77, 89, 90, 102, 103, 105, 128, 139, 150, 152, 163] (d + 1) 224 rfl 225 _ _ _ _).symm
set_option maxRecDepth 100000 in
theorem hX12_changed_45 (w : zW) (d : Nat) (x3 x4 x6 x7 s1 s2 : Int) (v0 v1 v2 v5 : zV) (σ : zMem) : zden w (d + 1) 224 45 [v0, v1, v2, zI x3, zI x4, v5, zI x6, zI x7, zU, zU] [zI s2, zI s1, zA 13 32 209] σ =
  if x6 = 1 then (zcall w d 339 [zI x3, zI x7] σ).bind fun r1 => zden w (d + 1) 224 53 [v0, v1, v2, zI x3, zI x4, v5, zI x6, zI x7, zU, zU] [zI r1.1, zI s2, zI s1, zA 13 32 209] r1.2 else zden w (d + 1) 224 53 [v0, v1, v2, zI x3, zI x4, v5, zI x6, zI x7, zU, zU] [zI x3, zI s2, zI s1, zA 13 32 209] σ :=
  (zunr_eq w zc_X12_changed [20, 36, 45, 53, 61, 63, 76, 77, 89, 90, 102, 103, 105, 128, 139, 150, 152, 163] (d + 1) 224 rfl 225 _ _ _ _).symm
set_option maxRecDepth 100000 in
theorem hX12_changed_53 (w : zW) (d : Nat) (x4 x6 x7 s1 s2 s3 : Int) (v0 v1 v2 v3 v5 : zV) (σ : zMem) : zden w (d + 1) 224 53 [v0, v1, v2, v3, zI x4, v5, zI x6, zI x7, zU, zU] [zI s3, zI s2, zI s1, zA 13 32 209] σ =
  if x6 = 2 then (zcall w d 339 [zI x4, zI x7] σ).bind fun r1 => zden w (d + 1) 224 61 [v0, v1, v2, v3, zI x4, v5, zI x6, zI x7, zU, zU] [zI r1.1, zI s3, zI s2, zI s1, zA 13 32 209] r1.2 else zden w (d + 1) 224 61 [v0, v1, v2, v3, zI x4, v5, zI x6, zI x7, zU, zU] [zI x4, zI s3, zI s2, zI s1, zA 13 32 209] σ :=
  (zunr_eq w zc_X12_changed [20, 36, 45, 53, 61, 63, 76, 77, 89, 90, 102, 103, 105, 128, 139, 150, 152, 163] (d + 1) 224 rfl 225 _ _ _ _).symm
set_option maxRecDepth 100000 in
theorem hX12_changed_61 (w : zW) (d : Nat) (s1 s2 s3 s4 : Int) (v0 v1 v2 v3 v4 v5 v6 v7 : zV) (σ : zMem) : zden w (d + 1) 224 61 [v0, v1, v2, v3, v4, v5, v6, v7, zU, zU] [zI s4, zI s3, zI s2, zI s1, zA 13 32 209] σ =
  (zcall w d 219 [zA 13 32 209, zI s1, zI s2, zI s3, zI s4] σ).bind fun r1 => some (r1.1, r1.2) :=
  (zunr_eq w zc_X12_changed [20, 36, 45, 53, 61, 63, 76, 77, 89, 90, 102, 103, 105, 128, 139, 150, 152, 163] (d + 1) 224 rfl 225 _ _ _ _).symm
set_option maxRecDepth 100000 in
theorem hX12_changed_63 (w : zW) (d : Nat) (x2 x3 x4 x5 x6 x7 : Int) (v1 : zV) (σ : zMem) : zden w (d + 1) 224 63 [zA 13 32 209, v1, zI x2, zI x3, zI x4, zI x5, zI x6, zI x7, zU, zU] [] σ =
  if x6 = 0 then if x7 < x2 then zden w (d + 1) 224 77 [zA 13 32 209, v1, zI x2, zI x3, zI x4, zI x5, zI x6, zI x7, zU, zU] [zI (zar 1 (zar 2 2 x7) x2), zI x5, zA 13 32 209] σ else zden w (d + 1) 224 76 [zA 13 32 209, v1, zI x2, zI x3, zI x4, zI x5, zI x6, zI x7, zU, zU] [zI x5, zA 13 32 209] σ else zden w (d + 1) 224 76 [zA 13 32 209, v1, zI x2, zI x3, zI x4, zI x5, zI x6, zI x7, zU, zU] [zI x5, zA 13 32 209] σ :=
  (zunr_eq w zc_X12_changed [20, 36, 45, 53, 61, 63, 76, 77, 89, 90, 102, 103, 105, 128, 139, 150, 152, 163] (d + 1) 224 rfl 225 _ _ _ _).symm
set_option maxRecDepth 100000 in
theorem hX12_changed_76 (w : zW) (d : Nat) (x2 x3 x4 x6 x7 s1 : Int) (v0 v1 v5 : zV) (σ : zMem) : zden w (d + 1) 224 76 [v0, v1, zI x2, zI x3, zI x4, v5, zI x6, zI x7, zU, zU] [zI s1, zA 13 32 209] σ =
  zden w (d + 1) 224 77 [v0, v1, zI x2, zI x3, zI x4, v5, zI x6, zI x7, zU, zU] [zI x2, zI s1, zA 13 32 209] σ :=
  (zunr_eq w zc_X12_changed [20, 36, 45, 53, 61, 63, 76, 77, 89, 90, 102, 103, 105, 128, 139, 150, 152, 163] (d + 1) 224 rfl 225 _ _ _ _).symm
set_option maxRecDepth 100000 in
theorem hX12_changed_77 (w : zW) (d : Nat) (x3 x4 x6 x7 s1 s2 : Int) (v0 v1 v2 v5 : zV) (σ : zMem) : zden w (d + 1) 224 77 [v0, v1, v2, zI x3, zI x4, v5, zI x6, zI x7, zU, zU] [zI s2, zI s1, zA 13 32 209] σ =
  if x6 = 1 then if x7 < x3 then zden w (d + 1) 224 90 [v0, v1, v2, zI x3, zI x4, v5, zI x6, zI x7, zU, zU] [zI (zar 1 (zar 2 2 x7) x3), zI s2, zI s1, zA 13 32 209] σ else zden w (d + 1) 224 89 [v0, v1, v2, zI x3, zI x4, v5, zI x6, zI x7, zU, zU] [zI s2, zI s1, zA 13 32 209] σ else zden w (d + 1) 224 89 [v0, v1, v2, zI x3, zI x4, v5, zI x6, zI x7, zU, zU] [zI s2, zI s1, zA 13 32 209] σ :=
  (zunr_eq w zc_X12_changed [20, 36, 45, 53, 61, 63, 76, 77, 89, 90, 102, 103, 105, 128, 139, 150, 152, 163] (d + 1) 224 rfl 225 _ _ _ _).symm
set_option maxRecDepth 100000 in
theorem hX12_changed_89 (w : zW) (d : Nat) (x3 x4 x6 x7 s1 s2 : Int) (v0 v1 v2 v5 : zV) (σ : zMem) : zden w (d + 1) 224 89 [v0, v1, v2, zI x3, zI x4, v5, zI x6, zI x7, zU, zU] [zI s2, zI s1, zA 13 32 209] σ =
  zden w (d + 1) 224 90 [v0, v1, v2, zI x3, zI x4, v5, zI x6, zI x7, zU, zU] [zI x3, zI s2, zI s1, zA 13 32 209] σ :=
  (zunr_eq w zc_X12_changed [20, 36, 45, 53, 61, 63, 76, 77, 89, 90, 102, 103, 105, 128, 139, 150, 152, 163] (d + 1) 224 rfl 225 _ _ _ _).symm
set_option maxRecDepth 100000 in
theorem hX12_changed_90 (w : zW) (d : Nat) (x4 x6 x7 s1 s2 s3 : Int) (v0 v1 v2 v3 v5 : zV) (σ : zMem) : zden w (d + 1) 224 90 [v0, v1, v2, v3, zI x4, v5, zI x6, zI x7, zU, zU] [zI s3, zI s2, zI s1, zA 13 32 209] σ =
  if x6 = 2 then if x7 < x4 then zden w (d + 1) 224 103 [v0, v1, v2, v3, zI x4, v5, zI x6, zI x7, zU, zU] [zI (zar 1 (zar 2 2 x7) x4), zI s3, zI s2, zI s1, zA 13 32 209] σ else zden w (d + 1) 224 102 [v0, v1, v2, v3, zI x4, v5, zI x6, zI x7, zU, zU] [zI s3, zI s2, zI s1, zA 13 32 209] σ else zden w (d + 1) 224 102 [v0, v1, v2, v3, zI x4, v5, zI x6, zI x7, zU, zU] [zI s3, zI s2, zI s1, zA 13 32 209] σ :=
  (zunr_eq w zc_X12_changed [20, 36, 45, 53, 61, 63, 76, 77, 89, 90, 102, 103, 105, 128, 139, 150, 152, 163] (d + 1) 224 rfl 225 _ _ _ _).symm
set_option maxRecDepth 100000 in
theorem hX12_changed_102 (w : zW) (d : Nat) (x4 s1 s2 s3 : Int) (v0 v1 v2 v3 v5 v6 v7 : zV) (σ : zMem) : zden w (d + 1) 224 102 [v0, v1, v2, v3, zI x4, v5, v6, v7, zU, zU] [zI s3, zI s2, zI s1, zA 13 32 209] σ =
  zden w (d + 1) 224 103 [v0, v1, v2, v3, zI x4, v5, v6, v7, zU, zU] [zI x4, zI s3, zI s2, zI s1, zA 13 32 209] σ :=
  (zunr_eq w zc_X12_changed [20, 36, 45, 53, 61, 63, 76, 77, 89, 90, 102, 103, 105, 128, 139, 150, 152, 163] (d + 1) 224 rfl 225 _ _ _ _).symm
set_option maxRecDepth 100000 in
theorem hX12_changed_103 (w : zW) (d : Nat) (s1 s2 s3 s4 : Int) (v0 v1 v2 v3 v4 v5 v6 v7 : zV) (σ : zMem) : zden w (d + 1) 224 103 [v0, v1, v2, v3, v4, v5, v6, v7, zU, zU] [zI s4, zI s3, zI s2, zI s1, zA 13 32 209] σ =
  (zcall w d 219 [zA 13 32 209, zI s1, zI s2, zI s3, zI s4] σ).bind fun r1 => some (r1.1, r1.2) :=
  (zunr_eq w zc_X12_changed [20, 36, 45, 53, 61, 63, 76, 77, 89, 90, 102, 103, 105, 128, 139, 150, 152, 163] (d + 1) 224 rfl 225 _ _ _ _).symm
set_option maxRecDepth 100000 in
theorem hX12_changed_105 (w : zW) (d : Nat) (x2 x3 x4 x5 x6 x7 : Int) (v1 : zV) (σ : zMem) : zden w (d + 1) 224 105 [zA 13 32 209, v1, zI x2, zI x3, zI x4, zI x5, zI x6, zI x7, zU, zU] [] σ =
  (zcall w d 223 [zI x6, zI x2, zI x3, zI x4] σ).bind fun r1 => (zcall w d 223 [zI x7, zI x2, zI x3, zI x4] r1.2).bind fun r2 => if x6 = 0 then zden w (d + 1) 224 128 [zA 13 32 209, v1, zI x2, zI x3, zI x4, zI x5, zI x6, zI x7, zI r1.1, zI r2.1] [zI r2.1, zI x5, zA 13 32 209] r2.2 else if x7 = 0 then zden w (d + 1) 224 128 [zA 13 32 209, v1, zI x2, zI x3, zI x4, zI x5, zI x6, zI x7, zI r1.1, zI r2.1] [zI r1.1, zI x5, zA 13 32 209] r2.2 else zden w (d + 1) 224 128 [zA 13 32 209, v1, zI x2, zI x3, zI x4, zI x5, zI x6, zI x7, zI r1.1, zI r2.1] [zI x2, zI x5, zA 13 32 209] r2.2 :=
  (zunr_eq w zc_X12_changed [20, 36, 45, 53, 61, 63, 76, 77, 89, 90, 102, 103, 105, 128, 139, 150, 152, 163] (d + 1) 224 rfl 225 _ _ _ _).symm
set_option maxRecDepth 100000 in
theorem hX12_changed_128 (w : zW) (d : Nat) (x3 x4 x6 x7 x8 x9 s1 s2 : Int) (v0 v1 v2 v5 : zV) (σ : zMem) : zden w (d + 1) 224 128 [v0, v1, v2, zI x3, zI x4, v5, zI x6, zI x7, zI x8, zI x9] [zI s2, zI s1, zA 13 32 209] σ =
  if x6 = 1 then zden w (d + 1) 224 139 [v0, v1, v2, zI x3, zI x4, v5, zI x6, zI x7, zI x8, zI x9] [zI x9, zI s2, zI s1, zA 13 32 209] σ else if x7 = 1 then zden w (d + 1) 224 139 [v0, v1, v2, zI x3, zI x4, v5, zI x6, zI x7, zI x8, zI x9] [zI x8, zI s2, zI s1, zA 13 32 209] σ else zden w (d + 1) 224 139 [v0, v1, v2, zI x3, zI x4, v5, zI x6, zI x7, zI x8, zI x9] [zI x3, zI s2, zI s1, zA 13 32 209] σ :=
  (zunr_eq w zc_X12_changed [20, 36, 45, 53, 61, 63, 76, 77, 89, 90, 102, 103, 105, 128, 139, 150, 152, 163] (d + 1) 224 rfl 225 _ _ _ _).symm
set_option maxRecDepth 100000 in
theorem hX12_changed_139 (w : zW) (d : Nat) (x4 x6 x7 x8 x9 s1 s2 s3 : Int) (v0 v1 v2 v3 v5 : zV) (σ : zMem) : zden w (d + 1) 224 139 [v0, v1, v2, v3, zI x4, v5, zI x6, zI x7, zI x8, zI x9] [zI s3, zI s2, zI s1, zA 13 32 209] σ =
  if x6 = 2 then zden w (d + 1) 224 150 [v0, v1, v2, v3, zI x4, v5, zI x6, zI x7, zI x8, zI x9] [zI x9, zI s3, zI s2, zI s1, zA 13 32 209] σ else if x7 = 2 then zden w (d + 1) 224 150 [v0, v1, v2, v3, zI x4, v5, zI x6, zI x7, zI x8, zI x9] [zI x8, zI s3, zI s2, zI s1, zA 13 32 209] σ else zden w (d + 1) 224 150 [v0, v1, v2, v3, zI x4, v5, zI x6, zI x7, zI x8, zI x9] [zI x4, zI s3, zI s2, zI s1, zA 13 32 209] σ :=
  (zunr_eq w zc_X12_changed [20, 36, 45, 53, 61, 63, 76, 77, 89, 90, 102, 103, 105, 128, 139, 150, 152, 163] (d + 1) 224 rfl 225 _ _ _ _).symm
set_option maxRecDepth 100000 in
theorem hX12_changed_150 (w : zW) (d : Nat) (s1 s2 s3 s4 : Int) (v0 v1 v2 v3 v4 v5 v6 v7 v8 v9 : zV) (σ : zMem) : zden w (d + 1) 224 150 [v0, v1, v2, v3, v4, v5, v6, v7, v8, v9] [zI s4, zI s3, zI s2, zI s1, zA 13 32 209] σ =
  (zcall w d 219 [zA 13 32 209, zI s1, zI s2, zI s3, zI s4] σ).bind fun r1 => some (r1.1, r1.2) :=
  (zunr_eq w zc_X12_changed [20, 36, 45, 53, 61, 63, 76, 77, 89, 90, 102, 103, 105, 128, 139, 150, 152, 163] (d + 1) 224 rfl 225 _ _ _ _).symm
set_option maxRecDepth 100000 in
theorem hX12_changed_152 (w : zW) (d : Nat) (x1 x2 x3 x4 x5 : Int) (v6 v7 : zV) (σ : zMem) : zden w (d + 1) 224 152 [zA 13 32 209, zI x1, zI x2, zI x3, zI x4, zI x5, v6, v7, zU, zU] [] σ =
  (zcall w d 219 [zA 13 32 209, zI x5, zI x2, zI x3, zI x4] σ).bind fun r1 => (zcall w d 222 [zA 13 32 209, zI x1] r1.2).bind fun r2 => some (zar 13 r1.1 r2.1, r2.2) :=
  (zunr_eq w zc_X12_changed [20, 36, 45, 53, 61, 63, 76, 77, 89, 90, 102, 103, 105, 128, 139, 150, 152, 163] (d + 1) 224 rfl 225 _ _ _ _).symm
set_option maxRecDepth 100000 in
theorem hX12_changed_163 (w : zW) (d : Nat) (x1 x2 x3 x4 x5 : Int) (v6 v7 : zV) (σ : zMem) : zden w (d + 1) 224 163 [zA 13 32 209, zI x1, zI x2, zI x3, zI x4, zI x5, v6, v7, zU, zU] [] σ =
  (zcall w d 219 [zA 13 32 209, zI x5, zI x2, zI x3, zI x4] σ).bind fun r1 => (zcall w d 340 [zJ r1.1] r1.2).bind fun r2 => (zcall w d 222 [zA 13 32 209, zI x1] r2.2).bind fun r3 => some (zar 13 r2.1 r3.1, r3.2) :=
  (zunr_eq w zc_X12_changed [20, 36, 45, 53, 61, 63, 76, 77, 89, 90, 102, 103, 105, 128, 139, 150, 152, 163] (d + 1) 224 rfl 225 _ _ _ _).symm
set_option maxRecDepth 100000 in
theorem eX12_common (w : zW) (d : Nat) (x1 x2 : Int) (σ : zMem) : zcall w d 225 [zJ x1, zJ x2] σ =
  if (zar 22 x1 0) < 0 then zden w d 225 11 [zJ x1, zU, zJ x2, zU, zJ (zar 16 x1 0), zU, zJ x2, zU, zU, zU] [] σ else zden w d 225 11 [zJ x1, zU, zJ x2, zU, zJ x1, zU, zJ x2, zU, zU, zU] [] σ :=
  (zcall_eq rfl).trans (zunr_eq w zc_X12_common [11] d 225 rfl 76 _ _ _ _).symm
set_option maxRecDepth 100000 in
theorem hX12_common_11 (w : zW) (d : Nat) (x4 x6 : Int) (v0 v2 v8 : zV) (σ : zMem) : zden w d 225 11 [v0, zU, v2, zU, zJ x4, zU, zJ x6, zU, v8, zU] [] σ =
  if (zar 22 x6 0) = 0 then some (x4, σ) else if x6 = 0 then none else zden w d 225 11 [v0, zU, v2, zU, zJ x6, zU, zJ (zar 4 x4 x6), zU, zJ (zar 4 x4 x6), zU] [] σ :=
  (zunr_eq w zc_X12_common [11] d 225 rfl 76 _ _ _ _).symm
set_option maxRecDepth 100000 in
theorem eX12_lowest (w : zW) (d : Nat) (x1 x2 : Int) (σ : zMem) : zcall w (d + 1) 226 [zJ x1, zI x2] σ =
  (zcall w d 225 [zJ x1, zJ 16003008000] σ).bind fun r1 => if x2 = 0 then if r1.1 = 0 then none else some (zar 15 16003008000 r1.1, r1.2) else if r1.1 = 0 then none else some (zar 15 x1 r1.1, r1.2) :=
  (zcall_eq rfl).trans (zunr_eq w zc_X12_lowest [] (d + 1) 226 rfl 62 _ _ _ _).symm
set_option maxRecDepth 100000 in
theorem eX12_worth (w : zW) (d : Nat) (x1 x2 x3 x4 x5 : Int) (σ : zMem) : zcall w (d + 1) 227 [zA 13 32 209, zI x1, zI x2, zI x3, zI x4, zI x5] σ =
  (zcall w d 218 [zA 13 32 209, zI x1] σ).bind fun r1 => if r1.1 = 0 then (zcall w d 215 [zA 13 32 209, zI (-62)] r1.2).bind fun r2 => some (r2.1, r2.2) else (zcall w d 213 [zJ x2, zJ (-99), zJ 99] r1.2).bind fun r3 => if r3.1 = 0 then (zcall w d 215 [zA 13 32 209, zI (-62)] r3.2).bind fun r4 => some (r4.1, r4.2) else (zcall w d 213 [zJ x3, zJ (-99), zJ 99] r3.2).bind fun r5 => if r5.1 = 0 then (zcall w d 215 [zA 13 32 209, zI (-62)] r5.2).bind fun r6 => some (r6.1, r6.2) else (zcall w d 213 [zJ x4, zJ (-99), zJ 99] r5.2).bind fun r7 => if r7.1 = 0 then (zcall w d 215 [zA 13 32 209, zI (-62)] r7.2).bind fun r8 => some (r8.1, r8.2) else (zcall w d 213 [zJ x5, zJ 0, zJ 1] r7.2).bind fun r9 => if r9.1 = 0 then (zcall w d 215 [zA 13 32 209, zI (-62)] r9.2).bind fun r10 => some (r10.1, r10.2) else (zcall w d 219 [zA 13 32 209, zI x1, zI x2, zI x3, zI x4] r9.2).bind fun r11 => if x5 = 0 then (zcall w d 226 [zJ r11.1, zI 1] r11.2).bind fun r12 => some (r12.1, r12.2) else (zcall w d 226 [zJ r11.1, zI 0] r11.2).bind fun r13 => some (r13.1, r13.2) :=
  (zcall_eq rfl).trans (zunr_eq w zc_X12_worth [] (d + 1) 227 rfl 95 _ _ _ _).symm
set_option maxRecDepth 100000 in
theorem eX12_leastSquare (w : zW) (d : Nat) (x1 x2 : Int) (σ : zMem) : zcall w (d + 1) 228 [zJ x1, zJ x2] σ =
  if 0 < (zar 22 x1 0) then (zcall w d 344 [zJ (zar 14 x1 x1), zJ (zar 14 x2 x2)] σ).bind fun r1 => some (r1.1, r1.2) else if (zar 22 x2 0) < 0 then (zcall w d 344 [zJ (zar 14 x1 x1), zJ (zar 14 x2 x2)] σ).bind fun r2 => some (r2.1, r2.2) else some (0, σ) :=
  (zcall_eq rfl).trans (zunr_eq w zc_X12_leastSquare [] (d + 1) 228 rfl 68 _ _ _ _).symm
set_option maxRecDepth 100000 in
theorem eX12_greatestSquare (w : zW) (d : Nat) (x1 x2 : Int) (σ : zMem) : zcall w (d + 1) 229 [zJ x1, zJ x2] σ =
  (zcall w d 342 [zJ (zar 14 x1 x1), zJ (zar 14 x2 x2)] σ).bind fun r1 => some (r1.1, r1.2) :=
  (zcall_eq rfl).trans (zunr_eq w zc_X12_greatestSquare [] (d + 1) 229 rfl 58 _ _ _ _).symm
set_option maxRecDepth 100000 in
theorem eX12_bound (w : zW) (d : Nat) (x1 x2 x3 x4 x5 x6 x7 x8 : Int) (σ : zMem) : zcall w (d + 1) 230 [zA 13 32 209, zI x1, zI x2, zI x3, zI x4, zI x5, zI x6, zI x7, zI x8] σ =
  (zcall w d 216 [zA 13 32 209, zI x1, zI 0] σ).bind fun r1 => if r1.1 = 3 then zden w (d + 1) 230 5 [zA 13 32 209, zI x1, zI x2, zI x3, zI x4, zI x5, zI x6, zI x7, zI x8, zU, zU, zU, zU, zU, zU, zU, zU] [] r1.2 else if r1.1 = 4 then zden w (d + 1) 230 110 [zA 13 32 209, zI x1, zI x2, zI x3, zI x4, zI x5, zI x6, zI x7, zI x8, zU, zU, zU, zU, zU, zU, zU, zU] [] r1.2 else if r1.1 = 5 then zden w (d + 1) 230 163 [zA 13 32 209, zI x1, zI x2, zI x3, zI x4, zI x5, zI x6, zI x7, zI x8, zU, zU, zU, zU, zU, zU, zU, zU] [] r1.2 else if r1.1 = 6 then zden w (d + 1) 230 267 [zA 13 32 209, zI x1, zI x2, zI x3, zI x4, zI x5, zI x6, zI x7, zI x8, zU, zU, zU, zU, zU, zU, zU, zU] [] r1.2 else if r1.1 = 7 then zden w (d + 1) 230 267 [zA 13 32 209, zI x1, zI x2, zI x3, zI x4, zI x5, zI x6, zI x7, zI x8, zU, zU, zU, zU, zU, zU, zU, zU] [] r1.2 else if r1.1 = 8 then zden w (d + 1) 230 256 [zA 13 32 209, zI x1, zI x2, zI x3, zI x4, zI x5, zI x6, zI x7, zI x8, zU, zU, zU, zU, zU, zU, zU, zU] [] r1.2 else if r1.1 = 9 then zden w (d + 1) 230 256 [zA 13 32 209, zI x1, zI x2, zI x3, zI x4, zI x5, zI x6, zI x7, zI x8, zU, zU, zU, zU, zU, zU, zU, zU] [] r1.2 else if r1.1 = 10 then zden w (d + 1) 230 256 [zA 13 32 209, zI x1, zI x2, zI x3, zI x4, zI x5, zI x6, zI x7, zI x8, zU, zU, zU, zU, zU, zU, zU, zU] [] r1.2 else if r1.1 = 11 then zden w (d + 1) 230 256 [zA 13 32 209, zI x1, zI x2, zI x3, zI x4, zI x5, zI x6, zI x7, zI x8, zU, zU, zU, zU, zU, zU, zU, zU] [] r1.2 else zden w (d + 1) 230 267 [zA 13 32 209, zI x1, zI x2, zI x3, zI x4, zI x5, zI x6, zI x7, zI x8, zU, zU, zU, zU, zU, zU, zU, zU] [] r1.2 :=
  (zcall_eq rfl).trans (zunr_eq w zc_X12_bound [5, 110, 163, 256, 267] (d + 1) 230 rfl 328 _ _ _ _).symm
set_option maxRecDepth 100000 in
theorem hX12_bound_5 (w : zW) (d : Nat) (x1 x2 x3 x4 x5 x6 x7 x8 : Int) (σ : zMem) : zden w (d + 1) 230 5 [zA 13 32 209, zI x1, zI x2, zI x3, zI x4, zI x5, zI x6, zI x7, zI x8, zU, zU, zU, zU, zU, zU, zU, zU] [] σ =
  (zcall w d 217 [zA 13 32 209, zI x1, zI 0] σ).bind fun r1 => (zcall w d 217 [zA 13 32 209, zI x1, zI 1] r1.2).bind fun r2 => (zcall w d 217 [zA 13 32 209, zI x1, zI 2] r2.2).bind fun r3 => (zcall w d 217 [zA 13 32 209, zI x1, zI 3] r3.2).bind fun r4 => (zcall w d 217 [zA 13 32 209, zI x1, zI 3] r4.2).bind fun r5 => (zcall w d 228 [zJ (zar 13 x3 r1.1), zJ (zar 13 x4 r1.1)] r5.2).bind fun r6 => (zcall w d 228 [zJ (zar 13 x5 r2.1), zJ (zar 13 x6 r2.1)] r6.2).bind fun r7 => (zcall w d 228 [zJ (zar 13 x7 r3.1), zJ (zar 13 x8 r3.1)] r7.2).bind fun r8 => if (0 : Int) ≤ x2 ∧ x2 < 9 then (zcall w d 229 [zJ (zar 13 x3 r1.1), zJ (zar 13 x4 r1.1)] (zup r8.2 212 x2 (zar 14 16003008000 (zar 13 (zar 12 (zar 12 r6.1 r7.1) r8.1) (zar 14 r4.1 r5.1))))).bind fun r9 => (zcall w d 229 [zJ (zar 13 x5 r2.1), zJ (zar 13 x6 r2.1)] r9.2).bind fun r10 => (zcall w d 229 [zJ (zar 13 x7 r3.1), zJ (zar 13 x8 r3.1)] r10.2).bind fun r11 => if (0 : Int) ≤ x2 ∧ x2 < 9 then some (0, zup r11.2 213 x2 (zar 14 16003008000 (zar 13 (zar 12 (zar 12 r9.1 r10.1) r11.1) (zar 14 r4.1 r5.1)))) else none else none :=
  (zunr_eq w zc_X12_bound [5, 110, 163, 256, 267] (d + 1) 230 rfl 328 _ _ _ _).symm
set_option maxRecDepth 100000 in
theorem hX12_bound_110 (w : zW) (d : Nat) (x1 x2 x3 x4 x5 x6 x7 x8 : Int) (σ : zMem) : zden w (d + 1) 230 110 [zA 13 32 209, zI x1, zI x2, zI x3, zI x4, zI x5, zI x6, zI x7, zI x8, zU, zU, zU, zU, zU, zU, zU, zU] [] σ =
  (zcall w d 231 [zA 13 32 209, zI x1, zI 0, zI x3, zI x4] σ).bind fun r1 => (zcall w d 231 [zA 13 32 209, zI x1, zI 1, zI x5, zI x6] r1.2).bind fun r2 => (zcall w d 342 [zJ r1.1, zJ r2.1] r2.2).bind fun r3 => (zcall w d 231 [zA 13 32 209, zI x1, zI 2, zI x7, zI x8] r3.2).bind fun r4 => (zcall w d 342 [zJ r3.1, zJ r4.1] r4.2).bind fun r5 => if (0 : Int) ≤ x2 ∧ x2 < 9 then (zcall w d 232 [zA 13 32 209, zI x1, zI 0, zI x3, zI x4] (zup r5.2 212 x2 (zar 14 16003008000 r5.1))).bind fun r6 => (zcall w d 232 [zA 13 32 209, zI x1, zI 1, zI x5, zI x6] r6.2).bind fun r7 => (zcall w d 342 [zJ r6.1, zJ r7.1] r7.2).bind fun r8 => (zcall w d 232 [zA 13 32 209, zI x1, zI 2, zI x7, zI x8] r8.2).bind fun r9 => (zcall w d 342 [zJ r8.1, zJ r9.1] r9.2).bind fun r10 => if (0 : Int) ≤ x2 ∧ x2 < 9 then some (0, zup r10.2 213 x2 (zar 14 16003008000 r10.1)) else none else none :=
  (zunr_eq w zc_X12_bound [5, 110, 163, 256, 267] (d + 1) 230 rfl 328 _ _ _ _).symm
set_option maxRecDepth 100000 in
theorem hX12_bound_163 (w : zW) (d : Nat) (x1 x2 x3 x4 x5 x6 x7 x8 : Int) (σ : zMem) : zden w (d + 1) 230 163 [zA 13 32 209, zI x1, zI x2, zI x3, zI x4, zI x5, zI x6, zI x7, zI x8, zU, zU, zU, zU, zU, zU, zU, zU] [] σ =
  (zcall w d 217 [zA 13 32 209, zI x1, zI 0] σ).bind fun r1 => (zcall w d 233 [zJ r1.1, zJ x3, zJ x4] r1.2).bind fun r2 => (zcall w d 217 [zA 13 32 209, zI x1, zI 1] r2.2).bind fun r3 => (zcall w d 233 [zJ r3.1, zJ x5, zJ x6] r3.2).bind fun r4 => (zcall w d 217 [zA 13 32 209, zI x1, zI 2] r4.2).bind fun r5 => (zcall w d 233 [zJ r5.1, zJ x7, zJ x8] r5.2).bind fun r6 => (zcall w d 217 [zA 13 32 209, zI x1, zI 3] r6.2).bind fun r7 => if (0 : Int) ≤ x2 ∧ x2 < 9 then (zcall w d 217 [zA 13 32 209, zI x1, zI 0] (zup r7.2 212 x2 (zar 14 16003008000 (zar 13 (zar 12 (zar 12 r2.1 r4.1) r6.1) r7.1)))).bind fun r8 => (zcall w d 233 [zJ (zar 5 r8.1 0), zJ x3, zJ x4] r8.2).bind fun r9 => (zcall w d 217 [zA 13 32 209, zI x1, zI 1] r9.2).bind fun r10 => (zcall w d 233 [zJ (zar 5 r10.1 0), zJ x5, zJ x6] r10.2).bind fun r11 => (zcall w d 217 [zA 13 32 209, zI x1, zI 2] r11.2).bind fun r12 => (zcall w d 233 [zJ (zar 5 r12.1 0), zJ x7, zJ x8] r12.2).bind fun r13 => (zcall w d 217 [zA 13 32 209, zI x1, zI 3] r13.2).bind fun r14 => if (0 : Int) ≤ x2 ∧ x2 < 9 then some (0, zup r14.2 213 x2 (zar 14 16003008000 (zar 13 (zar 13 (zar 13 (zar 16 r9.1 0) r11.1) r13.1) r14.1))) else none else none :=
  (zunr_eq w zc_X12_bound [5, 110, 163, 256, 267] (d + 1) 230 rfl 328 _ _ _ _).symm
set_option maxRecDepth 100000 in
theorem hX12_bound_256 (w : zW) (d : Nat) (x1 x2 x3 x4 x5 x6 x7 x8 : Int) (σ : zMem) : zden w (d + 1) 230 256 [zA 13 32 209, zI x1, zI x2, zI x3, zI x4, zI x5, zI x6, zI x7, zI x8, zU, zU, zU, zU, zU, zU, zU, zU] [] σ =
  (zcall w d 234 [zA 13 32 209, zI x1, zI x2, zI x3, zI x4, zI x5, zI x6, zI x7, zI x8] σ).bind fun r1 => some (0, r1.2) :=
  (zunr_eq w zc_X12_bound [5, 110, 163, 256, 267] (d + 1) 230 rfl 328 _ _ _ _).symm
set_option maxRecDepth 100000 in
theorem hX12_bound_267 (w : zW) (d : Nat) (x1 x2 x3 x4 x5 x6 x7 x8 : Int) (σ : zMem) : zden w (d + 1) 230 267 [zA 13 32 209, zI x1, zI x2, zI x3, zI x4, zI x5, zI x6, zI x7, zI x8, zU, zU, zU, zU, zU, zU, zU, zU] [] σ =
  (zcall w d 240 [zA 13 32 209, zI x1, zI x2, zI x3, zI x4, zI x5, zI x6, zI x7, zI x8] σ).bind fun r1 => some (0, r1.2) :=
  (zunr_eq w zc_X12_bound [5, 110, 163, 256, 267] (d + 1) 230 rfl 328 _ _ _ _).symm
set_option maxRecDepth 100000 in
theorem eX12_lowBeyond (w : zW) (d : Nat) (x1 x2 x3 x4 : Int) (σ : zMem) : zcall w (d + 1) 231 [zA 13 32 209, zI x1, zI x2, zI x3, zI x4] σ =
  (zcall w d 217 [zA 13 32 209, zI x1, zI x2] σ).bind fun r1 => (zcall w d 217 [zA 13 32 209, zI x1, zI (zar 0 3 x2)] r1.2).bind fun r2 => (zcall w d 341 [zI (zar 1 r1.1 x4), zI (zar 1 x3 r2.1)] r2.2).bind fun r3 => some (r3.1, r3.2) :=
  (zcall_eq rfl).trans (zunr_eq w zc_X12_lowBeyond [] (d + 1) 231 rfl 67 _ _ _ _).symm
set_option maxRecDepth 100000 in
theorem eX12_highBeyond (w : zW) (d : Nat) (x1 x2 x3 x4 : Int) (σ : zMem) : zcall w (d + 1) 232 [zA 13 32 209, zI x1, zI x2, zI x3, zI x4] σ =
  (zcall w d 217 [zA 13 32 209, zI x1, zI x2] σ).bind fun r1 => (zcall w d 217 [zA 13 32 209, zI x1, zI (zar 0 3 x2)] r1.2).bind fun r2 => (zcall w d 341 [zI (zar 1 r1.1 x3), zI (zar 1 x4 r2.1)] r2.2).bind fun r3 => some (r3.1, r3.2) :=
  (zcall_eq rfl).trans (zunr_eq w zc_X12_highBeyond [] (d + 1) 232 rfl 67 _ _ _ _).symm
set_option maxRecDepth 100000 in
theorem eX12_lesser (w : zW) (d : Nat) (x1 x2 x3 : Int) (σ : zMem) : zcall w (d + 1) 233 [zJ x1, zJ x2, zJ x3] σ =
  (zcall w d 344 [zJ (zar 14 x1 x2), zJ (zar 14 x1 x3)] σ).bind fun r1 => some (r1.1, r1.2) :=
  (zcall_eq rfl).trans (zunr_eq w zc_X12_lesser [] (d + 1) 233 rfl 58 _ _ _ _).symm
set_option maxRecDepth 100000 in
theorem eX12_boundPair (w : zW) (d : Nat) (x1 x2 x3 x4 x5 x6 x7 x8 : Int) (σ : zMem) : zcall w (d + 1) 234 [zA 13 32 209, zI x1, zI x2, zI x3, zI x4, zI x5, zI x6, zI x7, zI x8] σ =
  (zcall w d 216 [zA 13 32 209, zI x1, zI 1] σ).bind fun r1 => (zcall w d 230 [zA 13 32 209, zI r1.1, zI x2, zI x3, zI x4, zI x5, zI x6, zI x7, zI x8] r1.2).bind fun r2 => if (0 : Int) ≤ x2 ∧ x2 < 9 then if (0 : Int) ≤ x2 ∧ x2 < 9 then (zcall w d 216 [zA 13 32 209, zI x1, zI 2] r2.2).bind fun r3 => (zcall w d 230 [zA 13 32 209, zI r3.1, zI x2, zI x3, zI x4, zI x5, zI x6, zI x7, zI x8] r3.2).bind fun r4 => (zcall w d 216 [zA 13 32 209, zI x1, zI 0] r4.2).bind fun r5 => if r5.1 = 8 then zden w (d + 1) 234 41 [zA 13 32 209, zI x1, zI x2, zI x3, zI x4, zI x5, zI x6, zI x7, zI x8, zJ (r2.2 212 x2), zU, zJ (r2.2 213 x2), zU, zU, zU] [] r5.2 else if r5.1 = 9 then zden w (d + 1) 234 62 [zA 13 32 209, zI x1, zI x2, zI x3, zI x4, zI x5, zI x6, zI x7, zI x8, zJ (r2.2 212 x2), zU, zJ (r2.2 213 x2), zU, zU, zU] [] r5.2 else if r5.1 = 10 then zden w (d + 1) 234 83 [zA 13 32 209, zI x1, zI x2, zI x3, zI x4, zI x5, zI x6, zI x7, zI x8, zJ (r2.2 212 x2), zU, zJ (r2.2 213 x2), zU, zU, zU] [] r5.2 else zden w (d + 1) 234 108 [zA 13 32 209, zI x1, zI x2, zI x3, zI x4, zI x5, zI x6, zI x7, zI x8, zJ (r2.2 212 x2), zU, zJ (r2.2 213 x2), zU, zU, zU] [] r5.2 else none else none :=
  (zcall_eq rfl).trans (zunr_eq w zc_X12_boundPair [41, 62, 83, 108] (d + 1) 234 rfl 183 _ _ _ _).symm
set_option maxRecDepth 100000 in
theorem hX12_boundPair_41 (w : zW) (d : Nat) (x2 x9 x11 : Int) (v1 v3 v4 v5 v6 v7 v8 : zV) (σ : zMem) : zden w (d + 1) 234 41 [zA 13 32 209, v1, zI x2, v3, v4, v5, v6, v7, v8, zJ x9, zU, zJ x11, zU, zU, zU] [] σ =
  if (0 : Int) ≤ x2 ∧ x2 < 9 then (zcall w d 344 [zJ x9, zJ (σ 212 x2)] σ).bind fun r1 => if (0 : Int) ≤ x2 ∧ x2 < 9 then if (0 : Int) ≤ x2 ∧ x2 < 9 then (zcall w d 344 [zJ x11, zJ ((zup r1.2 212 x2 r1.1) 213 x2)] (zup r1.2 212 x2 r1.1)).bind fun r2 => if (0 : Int) ≤ x2 ∧ x2 < 9 then some (0, zup r2.2 213 x2 r2.1) else none else none else none else none :=
  (zunr_eq w zc_X12_boundPair [41, 62, 83, 108] (d + 1) 234 rfl 183 _ _ _ _).symm
set_option maxRecDepth 100000 in
theorem hX12_boundPair_62 (w : zW) (d : Nat) (x2 x9 x11 : Int) (v1 v3 v4 v5 v6 v7 v8 : zV) (σ : zMem) : zden w (d + 1) 234 62 [zA 13 32 209, v1, zI x2, v3, v4, v5, v6, v7, v8, zJ x9, zU, zJ x11, zU, zU, zU] [] σ =
  if (0 : Int) ≤ x2 ∧ x2 < 9 then (zcall w d 342 [zJ x9, zJ (σ 212 x2)] σ).bind fun r1 => if (0 : Int) ≤ x2 ∧ x2 < 9 then if (0 : Int) ≤ x2 ∧ x2 < 9 then (zcall w d 342 [zJ x11, zJ ((zup r1.2 212 x2 r1.1) 213 x2)] (zup r1.2 212 x2 r1.1)).bind fun r2 => if (0 : Int) ≤ x2 ∧ x2 < 9 then some (0, zup r2.2 213 x2 r2.1) else none else none else none else none :=
  (zunr_eq w zc_X12_boundPair [41, 62, 83, 108] (d + 1) 234 rfl 183 _ _ _ _).symm
set_option maxRecDepth 100000 in
theorem hX12_boundPair_83 (w : zW) (d : Nat) (x2 x9 x11 : Int) (v1 v3 v4 v5 v6 v7 v8 : zV) (σ : zMem) : zden w (d + 1) 234 83 [zA 13 32 209, v1, zI x2, v3, v4, v5, v6, v7, v8, zJ x9, zU, zJ x11, zU, zU, zU] [] σ =
  if (0 : Int) ≤ x2 ∧ x2 < 9 then if (0 : Int) ≤ x2 ∧ x2 < 9 then (zcall w d 342 [zJ x9, zJ (zar 16 (σ 213 x2) 0)] σ).bind fun r1 => if (0 : Int) ≤ x2 ∧ x2 < 9 then (zcall w d 342 [zJ x11, zJ (zar 16 (σ 212 x2) 0)] (zup r1.2 212 x2 r1.1)).bind fun r2 => if (0 : Int) ≤ x2 ∧ x2 < 9 then some (0, zup r2.2 213 x2 r2.1) else none else none else none else none :=
  (zunr_eq w zc_X12_boundPair [41, 62, 83, 108] (d + 1) 234 rfl 183 _ _ _ _).symm
set_option maxRecDepth 100000 in
theorem hX12_boundPair_108 (w : zW) (d : Nat) (x1 x2 x9 x11 : Int) (v3 v4 v5 v6 v7 v8 : zV) (σ : zMem) : zden w (d + 1) 234 108 [zA 13 32 209, zI x1, zI x2, v3, v4, v5, v6, v7, v8, zJ x9, zU, zJ x11, zU, zU, zU] [] σ =
  if (0 : Int) ≤ x2 ∧ x2 < 9 then (zcall w d 221 [zA 13 32 209, zI x1, zJ x9, zJ (σ 212 x2)] σ).bind fun r1 => if (0 : Int) ≤ x2 ∧ x2 < 9 then if (0 : Int) ≤ x2 ∧ x2 < 9 then (zcall w d 221 [zA 13 32 209, zI x1, zJ x11, zJ ((zup r1.2 212 x2 r1.1) 213 x2)] (zup r1.2 212 x2 r1.1)).bind fun r2 => if (0 : Int) ≤ x2 ∧ x2 < 9 then some (0, zup r2.2 213 x2 r2.1) else none else none else none else none :=
  (zunr_eq w zc_X12_boundPair [41, 62, 83, 108] (d + 1) 234 rfl 183 _ _ _ _).symm
set_option maxRecDepth 100000 in
theorem eX12_isWithin (w : zW) (d : Nat) (x1 x2 x3 : Int) (σ : zMem) : zcall w (d + 1) 235 [zI x1, zI x2, zI x3] σ =
  (zcall w d 339 [zI x1, zI x3] σ).bind fun r1 => (zcall w d 339 [zI x2, zI x3] r1.2).bind fun r2 => if r2.1 < r1.1 then some (0, r2.2) else if (zar 1 x2 x1) < x3 then some (1, r2.2) else some (0, r2.2) :=
  (zcall_eq rfl).trans (zunr_eq w zc_X12_isWithin [] (d + 1) 235 rfl 66 _ _ _ _).symm
set_option maxRecDepth 100000 in
theorem eX12_repeatFrom (w : zW) (d : Nat) (x1 x2 x3 : Int) (σ : zMem) : zcall w (d + 1) 236 [zI x1, zI x2, zI x3] σ =
  (zcall w d 235 [zI x1, zI x2, zI x3] σ).bind fun r1 => if r1.1 = 0 then some (0, r1.2) else (zcall w d 339 [zI x1, zI x3] r1.2).bind fun r2 => some (r2.1, r2.2) :=
  (zcall_eq rfl).trans (zunr_eq w zc_X12_repeatFrom [] (d + 1) 236 rfl 61 _ _ _ _).symm
set_option maxRecDepth 100000 in
theorem eX12_repeatTo (w : zW) (d : Nat) (x1 x2 x3 : Int) (σ : zMem) : zcall w (d + 1) 237 [zI x1, zI x2, zI x3] σ =
  (zcall w d 235 [zI x1, zI x2, zI x3] σ).bind fun r1 => if r1.1 = 0 then some (zar 1 x3 1, r1.2) else (zcall w d 339 [zI x2, zI x3] r1.2).bind fun r2 => some (r2.1, r2.2) :=
  (zcall_eq rfl).trans (zunr_eq w zc_X12_repeatTo [] (d + 1) 237 rfl 63 _ _ _ _).symm
set_option maxRecDepth 100000 in
theorem eX12_mirrorFrom (w : zW) (d : Nat) (x1 x2 x3 : Int) (σ : zMem) : zcall w (d + 1) 238 [zI x1, zI x2, zI x3] σ =
  if x3 < x2 then if x3 < x1 then some (zar 1 (zar 2 2 x3) x2, σ) else (zcall w d 343 [zI x1, zI (zar 1 (zar 2 2 x3) x2)] σ).bind fun r1 => some (r1.1, r1.2) else some (x1, σ) :=
  (zcall_eq rfl).trans (zunr_eq w zc_X12_mirrorFrom [] (d + 1) 238 rfl 72 _ _ _ _).symm
set_option maxRecDepth 100000 in
theorem eX12_mirrorTo (w : zW) (d : Nat) (x1 x2 x3 : Int) (σ : zMem) : zcall w d 239 [zI x1, zI x2, zI x3] σ =
  if x3 < x2 then if x3 < x1 then some (zar 1 (zar 2 2 x3) x1, σ) else some (x3, σ) else some (x2, σ) :=
  (zcall_eq rfl).trans (zunr_eq w zc_X12_mirrorTo [] d 239 rfl 66 _ _ _ _).symm
set_option maxRecDepth 100000 in
theorem eX12_boundChange (w : zW) (d : Nat) (x1 x2 x3 x4 x5 x6 x7 x8 : Int) (σ : zMem) : zcall w (d + 1) 240 [zA 13 32 209, zI x1, zI x2, zI x3, zI x4, zI x5, zI x6, zI x7, zI x8] σ =
  (zcall w d 216 [zA 13 32 209, zI x1, zI 1] σ).bind fun r1 => (zcall w d 217 [zA 13 32 209, zI x1, zI 0] r1.2).bind fun r2 => (zcall w d 217 [zA 13 32 209, zI x1, zI 1] r2.2).bind fun r3 => (zcall w d 216 [zA 13 32 209, zI x1, zI 0] r3.2).bind fun r4 => if r4.1 = 12 then zden w (d + 1) 240 20 [zA 13 32 209, zI x1, zI x2, zI x3, zI x4, zI x5, zI x6, zI x7, zI x8, zI r1.1, zI r2.1, zI r3.1, zU] [] r4.2 else if r4.1 = 13 then zden w (d + 1) 240 48 [zA 13 32 209, zI x1, zI x2, zI x3, zI x4, zI x5, zI x6, zI x7, zI x8, zI r1.1, zI r2.1, zI r3.1, zU] [] r4.2 else if r4.1 = 14 then zden w (d + 1) 240 105 [zA 13 32 209, zI x1, zI x2, zI x3, zI x4, zI x5, zI x6, zI x7, zI x8, zI r1.1, zI r2.1, zI r3.1, zU] [] r4.2 else if r4.1 = 15 then zden w (d + 1) 240 162 [zA 13 32 209, zI x1, zI x2, zI x3, zI x4, zI x5, zI x6, zI x7, zI x8, zI r1.1, zI r2.1, zI r3.1, zU] [] r4.2 else zden w (d + 1) 240 175 [zA 13 32 209, zI x1, zI x2, zI x3, zI x4, zI x5, zI x6, zI x7, zI x8, zI r1.1, zI r2.1, zI r3.1, zU] [] r4.2 :=
  (zcall_eq rfl).trans (zunr_eq w zc_X12_boundChange [20, 48, 59, 67, 76, 85, 94, 103, 105, 116, 124, 133, 142, 151, 160, 162, 175, 189] (d + 1) 240 rfl 240 _ _ _ _).symm
set_option maxRecDepth 100000 in
theorem hX12_boundChange_20 (w : zW) (d : Nat) (x1 x2 x3 x4 x5 x6 x7 x8 x9 x10 x11 : Int) (σ : zMem) : zden w (d + 1) 240 20 [zA 13 32 209, zI x1, zI x2, zI x3, zI x4, zI x5, zI x6, zI x7, zI x8, zI x9, zI x10, zI x11, zU] [] σ =
  (zcall w d 217 [zA 13 32 209, zI x1, zI 2] σ).bind fun r1 => (zcall w d 230 [zA 13 32 209, zI x9, zI x2, zI (zar 1 x3 x10), zI (zar 1 x4 x10), zI (zar 1 x5 x11), zI (zar 1 x6 x11), zI (zar 1 x7 r1.1), zI (zar 1 x8 r1.1)] r1.2).bind fun r2 => zden w (d + 1) 240 189 [zA 13 32 209, zI x1, zI x2, zI x3, zI x4, zI x5, zI x6, zI x7, zI x8, zI x9, zI x10, zI x11, zI r1.1] [] r2.2 :=
  (zunr_eq w zc_X12_boundChange [20, 48, 59, 67, 76, 85, 94, 103, 105, 116, 124, 133, 142, 151, 160, 162, 175, 189] (d + 1) 240 rfl 240 _ _ _ _).symm
set_option maxRecDepth 100000 in
theorem hX12_boundChange_48 (w : zW) (d : Nat) (x2 x3 x4 x5 x6 x7 x8 x9 x10 x11 : Int) (v1 : zV) (σ : zMem) : zden w (d + 1) 240 48 [zA 13 32 209, v1, zI x2, zI x3, zI x4, zI x5, zI x6, zI x7, zI x8, zI x9, zI x10, zI x11, zU] [] σ =
  if x10 = 0 then (zcall w d 236 [zI x3, zI x4, zI x11] σ).bind fun r1 => zden w (d + 1) 240 59 [zA 13 32 209, v1, zI x2, zI x3, zI x4, zI x5, zI x6, zI x7, zI x8, zI x9, zI x10, zI x11, zU] [zI r1.1, zI x2, zI x9, zA 13 32 209] r1.2 else zden w (d + 1) 240 59 [zA 13 32 209, v1, zI x2, zI x3, zI x4, zI x5, zI x6, zI x7, zI x8, zI x9, zI x10, zI x11, zU] [zI x3, zI x2, zI x9, zA 13 32 209] σ :=
  (zunr_eq w zc_X12_boundChange [20, 48, 59, 67, 76, 85, 94, 103, 105, 116, 124, 133, 142, 151, 160, 162, 175, 189] (d + 1) 240 rfl 240 _ _ _ _).symm
set_option maxRecDepth 100000 in
theorem hX12_boundChange_59 (w : zW) (d : Nat) (x3 x4 x5 x6 x7 x8 x10 x11 s1 s2 s3 : Int) (v0 v1 v2 v9 : zV) (σ : zMem) : zden w (d + 1) 240 59 [v0, v1, v2, zI x3, zI x4, zI x5, zI x6, zI x7, zI x8, v9, zI x10, zI x11, zU] [zI s3, zI s2, zI s1, zA 13 32 209] σ =
  if x10 = 0 then (zcall w d 237 [zI x3, zI x4, zI x11] σ).bind fun r1 => zden w (d + 1) 240 67 [v0, v1, v2, zI x3, zI x4, zI x5, zI x6, zI x7, zI x8, v9, zI x10, zI x11, zU] [zI r1.1, zI s3, zI s2, zI s1, zA 13 32 209] r1.2 else zden w (d + 1) 240 67 [v0, v1, v2, zI x3, zI x4, zI x5, zI x6, zI x7, zI x8, v9, zI x10, zI x11, zU] [zI x4, zI s3, zI s2, zI s1, zA 13 32 209] σ :=
  (zunr_eq w zc_X12_boundChange [20, 48, 59, 67, 76, 85, 94, 103, 105, 116, 124, 133, 142, 151, 160, 162, 175, 189] (d + 1) 240 rfl 240 _ _ _ _).symm
set_option maxRecDepth 100000 in
theorem hX12_boundChange_67 (w : zW) (d : Nat) (x5 x6 x7 x8 x10 x11 s1 s2 s3 s4 : Int) (v0 v1 v2 v3 v4 v9 : zV) (σ : zMem) : zden w (d + 1) 240 67 [v0, v1, v2, v3, v4, zI x5, zI x6, zI x7, zI x8, v9, zI x10, zI x11, zU] [zI s4, zI s3, zI s2, zI s1, zA 13 32 209] σ =
  if x10 = 1 then (zcall w d 236 [zI x5, zI x6, zI x11] σ).bind fun r1 => zden w (d + 1) 240 76 [v0, v1, v2, v3, v4, zI x5, zI x6, zI x7, zI x8, v9, zI x10, zI x11, zU] [zI r1.1, zI s4, zI s3, zI s2, zI s1, zA 13 32 209] r1.2 else zden w (d + 1) 240 76 [v0, v1, v2, v3, v4, zI x5, zI x6, zI x7, zI x8, v9, zI x10, zI x11, zU] [zI x5, zI s4, zI s3, zI s2, zI s1, zA 13 32 209] σ :=
  (zunr_eq w zc_X12_boundChange [20, 48, 59, 67, 76, 85, 94, 103, 105, 116, 124, 133, 142, 151, 160, 162, 175, 189] (d + 1) 240 rfl 240 _ _ _ _).symm
set_option maxRecDepth 100000 in
theorem hX12_boundChange_76 (w : zW) (d : Nat) (x5 x6 x7 x8 x10 x11 s1 s2 s3 s4 s5 : Int) (v0 v1 v2 v3 v4 v9 : zV) (σ : zMem) : zden w (d + 1) 240 76 [v0, v1, v2, v3, v4, zI x5, zI x6, zI x7, zI x8, v9, zI x10, zI x11, zU] [zI s5, zI s4, zI s3, zI s2, zI s1, zA 13 32 209] σ =
  if x10 = 1 then (zcall w d 237 [zI x5, zI x6, zI x11] σ).bind fun r1 => zden w (d + 1) 240 85 [v0, v1, v2, v3, v4, zI x5, zI x6, zI x7, zI x8, v9, zI x10, zI x11, zU] [zI r1.1, zI s5, zI s4, zI s3, zI s2, zI s1, zA 13 32 209] r1.2 else zden w (d + 1) 240 85 [v0, v1, v2, v3, v4, zI x5, zI x6, zI x7, zI x8, v9, zI x10, zI x11, zU] [zI x6, zI s5, zI s4, zI s3, zI s2, zI s1, zA 13 32 209] σ :=
  (zunr_eq w zc_X12_boundChange [20, 48, 59, 67, 76, 85, 94, 103, 105, 116, 124, 133, 142, 151, 160, 162, 175, 189] (d + 1) 240 rfl 240 _ _ _ _).symm
set_option maxRecDepth 100000 in
theorem hX12_boundChange_85 (w : zW) (d : Nat) (x7 x8 x10 x11 s1 s2 s3 s4 s5 s6 : Int) (v0 v1 v2 v3 v4 v5 v6 v9 : zV) (σ : zMem) : zden w (d + 1) 240 85 [v0, v1, v2, v3, v4, v5, v6, zI x7, zI x8, v9, zI x10, zI x11, zU] [zI s6, zI s5, zI s4, zI s3, zI s2, zI s1, zA 13 32 209] σ =
  if x10 = 2 then (zcall w d 236 [zI x7, zI x8, zI x11] σ).bind fun r1 => zden w (d + 1) 240 94 [v0, v1, v2, v3, v4, v5, v6, zI x7, zI x8, v9, zI x10, zI x11, zU] [zI r1.1, zI s6, zI s5, zI s4, zI s3, zI s2, zI s1, zA 13 32 209] r1.2 else zden w (d + 1) 240 94 [v0, v1, v2, v3, v4, v5, v6, zI x7, zI x8, v9, zI x10, zI x11, zU] [zI x7, zI s6, zI s5, zI s4, zI s3, zI s2, zI s1, zA 13 32 209] σ :=
  (zunr_eq w zc_X12_boundChange [20, 48, 59, 67, 76, 85, 94, 103, 105, 116, 124, 133, 142, 151, 160, 162, 175, 189] (d + 1) 240 rfl 240 _ _ _ _).symm
set_option maxRecDepth 100000 in
theorem hX12_boundChange_94 (w : zW) (d : Nat) (x7 x8 x10 x11 s1 s2 s3 s4 s5 s6 s7 : Int) (v0 v1 v2 v3 v4 v5 v6 v9 : zV) (σ : zMem) : zden w (d + 1) 240 94 [v0, v1, v2, v3, v4, v5, v6, zI x7, zI x8, v9, zI x10, zI x11, zU] [zI s7, zI s6, zI s5, zI s4, zI s3, zI s2, zI s1, zA 13 32 209] σ =
  if x10 = 2 then (zcall w d 237 [zI x7, zI x8, zI x11] σ).bind fun r1 => zden w (d + 1) 240 103 [v0, v1, v2, v3, v4, v5, v6, zI x7, zI x8, v9, zI x10, zI x11, zU] [zI r1.1, zI s7, zI s6, zI s5, zI s4, zI s3, zI s2, zI s1, zA 13 32 209] r1.2 else zden w (d + 1) 240 103 [v0, v1, v2, v3, v4, v5, v6, zI x7, zI x8, v9, zI x10, zI x11, zU] [zI x8, zI s7, zI s6, zI s5, zI s4, zI s3, zI s2, zI s1, zA 13 32 209] σ :=
  (zunr_eq w zc_X12_boundChange [20, 48, 59, 67, 76, 85, 94, 103, 105, 116, 124, 133, 142, 151, 160, 162, 175, 189] (d + 1) 240 rfl 240 _ _ _ _).symm
set_option maxRecDepth 100000 in
theorem hX12_boundChange_103 (w : zW) (d : Nat) (s1 s2 s3 s4 s5 s6 s7 s8 : Int) (v0 v1 v2 v3 v4 v5 v6 v7 v8 v9 v10 v11 : zV) (σ : zMem) : zden w (d + 1) 240 103 [v0, v1, v2, v3, v4, v5, v6, v7, v8, v9, v10, v11, zU] [zI s8, zI s7, zI s6, zI s5, zI s4, zI s3, zI s2, zI s1, zA 13 32 209] σ =
  (zcall w d 230 [zA 13 32 209, zI s1, zI s2, zI s3, zI s4, zI s5, zI s6, zI s7, zI s8] σ).bind fun r1 => zden w (d + 1) 240 189 [v0, v1, v2, v3, v4, v5, v6, v7, v8, v9, v10, v11, zU] [] r1.2 :=
  (zunr_eq w zc_X12_boundChange [20, 48, 59, 67, 76, 85, 94, 103, 105, 116, 124, 133, 142, 151, 160, 162, 175, 189] (d + 1) 240 rfl 240 _ _ _ _).symm
set_option maxRecDepth 100000 in
theorem hX12_boundChange_105 (w : zW) (d : Nat) (x2 x3 x4 x5 x6 x7 x8 x9 x10 x11 : Int) (v1 : zV) (σ : zMem) : zden w (d + 1) 240 105 [zA 13 32 209, v1, zI x2, zI x3, zI x4, zI x5, zI x6, zI x7, zI x8, zI x9, zI x10, zI x11, zU] [] σ =
  if x10 = 0 then (zcall w d 238 [zI x3, zI x4, zI x11] σ).bind fun r1 => zden w (d + 1) 240 116 [zA 13 32 209, v1, zI x2, zI x3, zI x4, zI x5, zI x6, zI x7, zI x8, zI x9, zI x10, zI x11, zU] [zI r1.1, zI x2, zI x9, zA 13 32 209] r1.2 else zden w (d + 1) 240 116 [zA 13 32 209, v1, zI x2, zI x3, zI x4, zI x5, zI x6, zI x7, zI x8, zI x9, zI x10, zI x11, zU] [zI x3, zI x2, zI x9, zA 13 32 209] σ :=
  (zunr_eq w zc_X12_boundChange [20, 48, 59, 67, 76, 85, 94, 103, 105, 116, 124, 133, 142, 151, 160, 162, 175, 189] (d + 1) 240 rfl 240 _ _ _ _).symm
set_option maxRecDepth 100000 in
theorem hX12_boundChange_116 (w : zW) (d : Nat) (x3 x4 x5 x6 x7 x8 x10 x11 s1 s2 s3 : Int) (v0 v1 v2 v9 : zV) (σ : zMem) : zden w (d + 1) 240 116 [v0, v1, v2, zI x3, zI x4, zI x5, zI x6, zI x7, zI x8, v9, zI x10, zI x11, zU] [zI s3, zI s2, zI s1, zA 13 32 209] σ =
  if x10 = 0 then (zcall w d 239 [zI x3, zI x4, zI x11] σ).bind fun r1 => zden w (d + 1) 240 124 [v0, v1, v2, zI x3, zI x4, zI x5, zI x6, zI x7, zI x8, v9, zI x10, zI x11, zU] [zI r1.1, zI s3, zI s2, zI s1, zA 13 32 209] r1.2 else zden w (d + 1) 240 124 [v0, v1, v2, zI x3, zI x4, zI x5, zI x6, zI x7, zI x8, v9, zI x10, zI x11, zU] [zI x4, zI s3, zI s2, zI s1, zA 13 32 209] σ :=
  (zunr_eq w zc_X12_boundChange [20, 48, 59, 67, 76, 85, 94, 103, 105, 116, 124, 133, 142, 151, 160, 162, 175, 189] (d + 1) 240 rfl 240 _ _ _ _).symm
set_option maxRecDepth 100000 in
theorem hX12_boundChange_124 (w : zW) (d : Nat) (x5 x6 x7 x8 x10 x11 s1 s2 s3 s4 : Int) (v0 v1 v2 v3 v4 v9 : zV) (σ : zMem) : zden w (d + 1) 240 124 [v0, v1, v2, v3, v4, zI x5, zI x6, zI x7, zI x8, v9, zI x10, zI x11, zU] [zI s4, zI s3, zI s2, zI s1, zA 13 32 209] σ =
  if x10 = 1 then (zcall w d 238 [zI x5, zI x6, zI x11] σ).bind fun r1 => zden w (d + 1) 240 133 [v0, v1, v2, v3, v4, zI x5, zI x6, zI x7, zI x8, v9, zI x10, zI x11, zU] [zI r1.1, zI s4, zI s3, zI s2, zI s1, zA 13 32 209] r1.2 else zden w (d + 1) 240 133 [v0, v1, v2, v3, v4, zI x5, zI x6, zI x7, zI x8, v9, zI x10, zI x11, zU] [zI x5, zI s4, zI s3, zI s2, zI s1, zA 13 32 209] σ :=
  (zunr_eq w zc_X12_boundChange [20, 48, 59, 67, 76, 85, 94, 103, 105, 116, 124, 133, 142, 151, 160, 162, 175, 189] (d + 1) 240 rfl 240 _ _ _ _).symm
set_option maxRecDepth 100000 in
theorem hX12_boundChange_133 (w : zW) (d : Nat) (x5 x6 x7 x8 x10 x11 s1 s2 s3 s4 s5 : Int) (v0 v1 v2 v3 v4 v9 : zV) (σ : zMem) : zden w (d + 1) 240 133 [v0, v1, v2, v3, v4, zI x5, zI x6, zI x7, zI x8, v9, zI x10, zI x11, zU] [zI s5, zI s4, zI s3, zI s2, zI s1, zA 13 32 209] σ =
  if x10 = 1 then (zcall w d 239 [zI x5, zI x6, zI x11] σ).bind fun r1 => zden w (d + 1) 240 142 [v0, v1, v2, v3, v4, zI x5, zI x6, zI x7, zI x8, v9, zI x10, zI x11, zU] [zI r1.1, zI s5, zI s4, zI s3, zI s2, zI s1, zA 13 32 209] r1.2 else zden w (d + 1) 240 142 [v0, v1, v2, v3, v4, zI x5, zI x6, zI x7, zI x8, v9, zI x10, zI x11, zU] [zI x6, zI s5, zI s4, zI s3, zI s2, zI s1, zA 13 32 209] σ :=
  (zunr_eq w zc_X12_boundChange [20, 48, 59, 67, 76, 85, 94, 103, 105, 116, 124, 133, 142, 151, 160, 162, 175, 189] (d + 1) 240 rfl 240 _ _ _ _).symm
set_option maxRecDepth 100000 in
theorem hX12_boundChange_142 (w : zW) (d : Nat) (x7 x8 x10 x11 s1 s2 s3 s4 s5 s6 : Int) (v0 v1 v2 v3 v4 v5 v6 v9 : zV) (σ : zMem) : zden w (d + 1) 240 142 [v0, v1, v2, v3, v4, v5, v6, zI x7, zI x8, v9, zI x10, zI x11, zU] [zI s6, zI s5, zI s4, zI s3, zI s2, zI s1, zA 13 32 209] σ =
  if x10 = 2 then (zcall w d 238 [zI x7, zI x8, zI x11] σ).bind fun r1 => zden w (d + 1) 240 151 [v0, v1, v2, v3, v4, v5, v6, zI x7, zI x8, v9, zI x10, zI x11, zU] [zI r1.1, zI s6, zI s5, zI s4, zI s3, zI s2, zI s1, zA 13 32 209] r1.2 else zden w (d + 1) 240 151 [v0, v1, v2, v3, v4, v5, v6, zI x7, zI x8, v9, zI x10, zI x11, zU] [zI x7, zI s6, zI s5, zI s4, zI s3, zI s2, zI s1, zA 13 32 209] σ :=
  (zunr_eq w zc_X12_boundChange [20, 48, 59, 67, 76, 85, 94, 103, 105, 116, 124, 133, 142, 151, 160, 162, 175, 189] (d + 1) 240 rfl 240 _ _ _ _).symm
set_option maxRecDepth 100000 in
theorem hX12_boundChange_151 (w : zW) (d : Nat) (x7 x8 x10 x11 s1 s2 s3 s4 s5 s6 s7 : Int) (v0 v1 v2 v3 v4 v5 v6 v9 : zV) (σ : zMem) : zden w (d + 1) 240 151 [v0, v1, v2, v3, v4, v5, v6, zI x7, zI x8, v9, zI x10, zI x11, zU] [zI s7, zI s6, zI s5, zI s4, zI s3, zI s2, zI s1, zA 13 32 209] σ =
  if x10 = 2 then (zcall w d 239 [zI x7, zI x8, zI x11] σ).bind fun r1 => zden w (d + 1) 240 160 [v0, v1, v2, v3, v4, v5, v6, zI x7, zI x8, v9, zI x10, zI x11, zU] [zI r1.1, zI s7, zI s6, zI s5, zI s4, zI s3, zI s2, zI s1, zA 13 32 209] r1.2 else zden w (d + 1) 240 160 [v0, v1, v2, v3, v4, v5, v6, zI x7, zI x8, v9, zI x10, zI x11, zU] [zI x8, zI s7, zI s6, zI s5, zI s4, zI s3, zI s2, zI s1, zA 13 32 209] σ :=
  (zunr_eq w zc_X12_boundChange [20, 48, 59, 67, 76, 85, 94, 103, 105, 116, 124, 133, 142, 151, 160, 162, 175, 189] (d + 1) 240 rfl 240 _ _ _ _).symm
set_option maxRecDepth 100000 in
theorem hX12_boundChange_160 (w : zW) (d : Nat) (s1 s2 s3 s4 s5 s6 s7 s8 : Int) (v0 v1 v2 v3 v4 v5 v6 v7 v8 v9 v10 v11 : zV) (σ : zMem) : zden w (d + 1) 240 160 [v0, v1, v2, v3, v4, v5, v6, v7, v8, v9, v10, v11, zU] [zI s8, zI s7, zI s6, zI s5, zI s4, zI s3, zI s2, zI s1, zA 13 32 209] σ =
  (zcall w d 230 [zA 13 32 209, zI s1, zI s2, zI s3, zI s4, zI s5, zI s6, zI s7, zI s8] σ).bind fun r1 => zden w (d + 1) 240 189 [v0, v1, v2, v3, v4, v5, v6, v7, v8, v9, v10, v11, zU] [] r1.2 :=
  (zunr_eq w zc_X12_boundChange [20, 48, 59, 67, 76, 85, 94, 103, 105, 116, 124, 133, 142, 151, 160, 162, 175, 189] (d + 1) 240 rfl 240 _ _ _ _).symm
set_option maxRecDepth 100000 in
theorem hX12_boundChange_162 (w : zW) (d : Nat) (x2 x3 x4 x5 x6 x7 x8 x9 x10 x11 : Int) (v1 : zV) (σ : zMem) : zden w (d + 1) 240 162 [zA 13 32 209, v1, zI x2, zI x3, zI x4, zI x5, zI x6, zI x7, zI x8, zI x9, zI x10, zI x11, zU] [] σ =
  (zcall w d 241 [zA 13 32 209, zI x9, zI x2, zI x10, zI x11, zI x3, zI x4, zI x5, zI x6, zI x7, zI x8] σ).bind fun r1 => zden w (d + 1) 240 189 [zA 13 32 209, v1, zI x2, zI x3, zI x4, zI x5, zI x6, zI x7, zI x8, zI x9, zI x10, zI x11, zU] [] r1.2 :=
  (zunr_eq w zc_X12_boundChange [20, 48, 59, 67, 76, 85, 94, 103, 105, 116, 124, 133, 142, 151, 160, 162, 175, 189] (d + 1) 240 rfl 240 _ _ _ _).symm
set_option maxRecDepth 100000 in
theorem hX12_boundChange_175 (w : zW) (d : Nat) (x1 x2 x3 x4 x5 x6 x7 x8 x9 : Int) (v10 v11 : zV) (σ : zMem) : zden w (d + 1) 240 175 [zA 13 32 209, zI x1, zI x2, zI x3, zI x4, zI x5, zI x6, zI x7, zI x8, zI x9, v10, v11, zU] [] σ =
  (zcall w d 230 [zA 13 32 209, zI x9, zI x2, zI x3, zI x4, zI x5, zI x6, zI x7, zI x8] σ).bind fun r1 => (zcall w d 242 [zA 13 32 209, zI x1, zI x2] r1.2).bind fun r2 => zden w (d + 1) 240 189 [zA 13 32 209, zI x1, zI x2, zI x3, zI x4, zI x5, zI x6, zI x7, zI x8, zI x9, v10, v11, zU] [] r2.2 :=
  (zunr_eq w zc_X12_boundChange [20, 48, 59, 67, 76, 85, 94, 103, 105, 116, 124, 133, 142, 151, 160, 162, 175, 189] (d + 1) 240 rfl 240 _ _ _ _).symm
set_option maxRecDepth 100000 in
theorem hX12_boundChange_189 (w : zW) (d : Nat) (v0 v1 v2 v3 v4 v5 v6 v7 v8 v9 v10 v11 v12 : zV) (σ : zMem) : zden w (d + 1) 240 189 [v0, v1, v2, v3, v4, v5, v6, v7, v8, v9, v10, v11, v12] [] σ =
  some (0, σ) :=
  (zunr_eq w zc_X12_boundChange [20, 48, 59, 67, 76, 85, 94, 103, 105, 116, 124, 133, 142, 151, 160, 162, 175, 189] (d + 1) 240 rfl 240 _ _ _ _).symm
set_option maxRecDepth 100000 in
theorem eX12_boundTurn (w : zW) (d : Nat) (x1 x2 x3 x4 x5 x6 x7 x8 x9 x10 : Int) (σ : zMem) : zcall w (d + 1) 241 [zA 13 32 209, zI x1, zI x2, zI x3, zI x4, zI x5, zI x6, zI x7, zI x8, zI x9, zI x10] σ =
  (zcall w d 223 [zI x3, zI x5, zI x7, zI x9] σ).bind fun r1 => (zcall w d 223 [zI x3, zI x6, zI x8, zI x10] r1.2).bind fun r2 => (zcall w d 223 [zI x4, zI x5, zI x7, zI x9] r2.2).bind fun r3 => (zcall w d 223 [zI x4, zI x6, zI x8, zI x10] r3.2).bind fun r4 => if x3 = 0 then zden w (d + 1) 241 36 [zA 13 32 209, zI x1, zI x2, zI x3, zI x4, zI x5, zI x6, zI x7, zI x8, zI x9, zI x10, zI r1.1, zI r2.1, zI r3.1, zI r4.1] [zI r3.1, zI x2, zI x1, zA 13 32 209] r4.2 else if x4 = 0 then zden w (d + 1) 241 36 [zA 13 32 209, zI x1, zI x2, zI x3, zI x4, zI x5, zI x6, zI x7, zI x8, zI x9, zI x10, zI r1.1, zI r2.1, zI r3.1, zI r4.1] [zI r1.1, zI x2, zI x1, zA 13 32 209] r4.2 else zden w (d + 1) 241 36 [zA 13 32 209, zI x1, zI x2, zI x3, zI x4, zI x5, zI x6, zI x7, zI x8, zI x9, zI x10, zI r1.1, zI r2.1, zI r3.1, zI r4.1] [zI x5, zI x2, zI x1, zA 13 32 209] r4.2 :=
  (zcall_eq rfl).trans (zunr_eq w zc_X12_boundTurn [36, 45, 56, 67, 78, 89] (d + 1) 241 rfl 141 _ _ _ _).symm
set_option maxRecDepth 100000 in
theorem hX12_boundTurn_36 (w : zW) (d : Nat) (x3 x4 x6 x7 x8 x9 x10 x11 x12 x13 x14 s1 s2 s3 : Int) (v0 v1 v2 v5 : zV) (σ : zMem) : zden w (d + 1) 241 36 [v0, v1, v2, zI x3, zI x4, v5, zI x6, zI x7, zI x8, zI x9, zI x10, zI x11, zI x12, zI x13, zI x14] [zI s3, zI s2, zI s1, zA 13 32 209] σ =
  if x3 = 0 then zden w (d + 1) 241 45 [v0, v1, v2, zI x3, zI x4, v5, zI x6, zI x7, zI x8, zI x9, zI x10, zI x11, zI x12, zI x13, zI x14] [zI x14, zI s3, zI s2, zI s1, zA 13 32 209] σ else if x4 = 0 then zden w (d + 1) 241 45 [v0, v1, v2, zI x3, zI x4, v5, zI x6, zI x7, zI x8, zI x9, zI x10, zI x11, zI x12, zI x13, zI x14] [zI x12, zI s3, zI s2, zI s1, zA 13 32 209] σ else zden w (d + 1) 241 45 [v0, v1, v2, zI x3, zI x4, v5, zI x6, zI x7, zI x8, zI x9, zI x10, zI x11, zI x12, zI x13, zI x14] [zI x6, zI s3, zI s2, zI s1, zA 13 32 209] σ :=
  (zunr_eq w zc_X12_boundTurn [36, 45, 56, 67, 78, 89] (d + 1) 241 rfl 141 _ _ _ _).symm
set_option maxRecDepth 100000 in
theorem hX12_boundTurn_45 (w : zW) (d : Nat) (x3 x4 x7 x8 x9 x10 x11 x12 x13 x14 s1 s2 s3 s4 : Int) (v0 v1 v2 v5 v6 : zV) (σ : zMem) : zden w (d + 1) 241 45 [v0, v1, v2, zI x3, zI x4, v5, v6, zI x7, zI x8, zI x9, zI x10, zI x11, zI x12, zI x13, zI x14] [zI s4, zI s3, zI s2, zI s1, zA 13 32 209] σ =
  if x3 = 1 then zden w (d + 1) 241 56 [v0, v1, v2, zI x3, zI x4, v5, v6, zI x7, zI x8, zI x9, zI x10, zI x11, zI x12, zI x13, zI x14] [zI x13, zI s4, zI s3, zI s2, zI s1, zA 13 32 209] σ else if x4 = 1 then zden w (d + 1) 241 56 [v0, v1, v2, zI x3, zI x4, v5, v6, zI x7, zI x8, zI x9, zI x10, zI x11, zI x12, zI x13, zI x14] [zI x11, zI s4, zI s3, zI s2, zI s1, zA 13 32 209] σ else zden w (d + 1) 241 56 [v0, v1, v2, zI x3, zI x4, v5, v6, zI x7, zI x8, zI x9, zI x10, zI x11, zI x12, zI x13, zI x14] [zI x7, zI s4, zI s3, zI s2, zI s1, zA 13 32 209] σ :=
  (zunr_eq w zc_X12_boundTurn [36, 45, 56, 67, 78, 89] (d + 1) 241 rfl 141 _ _ _ _).symm
set_option maxRecDepth 100000 in
theorem hX12_boundTurn_56 (w : zW) (d : Nat) (x3 x4 x8 x9 x10 x11 x12 x13 x14 s1 s2 s3 s4 s5 : Int) (v0 v1 v2 v5 v6 v7 : zV) (σ : zMem) : zden w (d + 1) 241 56 [v0, v1, v2, zI x3, zI x4, v5, v6, v7, zI x8, zI x9, zI x10, zI x11, zI x12, zI x13, zI x14] [zI s5, zI s4, zI s3, zI s2, zI s1, zA 13 32 209] σ =
  if x3 = 1 then zden w (d + 1) 241 67 [v0, v1, v2, zI x3, zI x4, v5, v6, v7, zI x8, zI x9, zI x10, zI x11, zI x12, zI x13, zI x14] [zI x14, zI s5, zI s4, zI s3, zI s2, zI s1, zA 13 32 209] σ else if x4 = 1 then zden w (d + 1) 241 67 [v0, v1, v2, zI x3, zI x4, v5, v6, v7, zI x8, zI x9, zI x10, zI x11, zI x12, zI x13, zI x14] [zI x12, zI s5, zI s4, zI s3, zI s2, zI s1, zA 13 32 209] σ else zden w (d + 1) 241 67 [v0, v1, v2, zI x3, zI x4, v5, v6, v7, zI x8, zI x9, zI x10, zI x11, zI x12, zI x13, zI x14] [zI x8, zI s5, zI s4, zI s3, zI s2, zI s1, zA 13 32 209] σ :=
  (zunr_eq w zc_X12_boundTurn [36, 45, 56, 67, 78, 89] (d + 1) 241 rfl 141 _ _ _ _).symm
set_option maxRecDepth 100000 in
theorem hX12_boundTurn_67 (w : zW) (d : Nat) (x3 x4 x9 x10 x11 x12 x13 x14 s1 s2 s3 s4 s5 s6 : Int) (v0 v1 v2 v5 v6 v7 v8 : zV) (σ : zMem) : zden w (d + 1) 241 67 [v0, v1, v2, zI x3, zI x4, v5, v6, v7, v8, zI x9, zI x10, zI x11, zI x12, zI x13, zI x14] [zI s6, zI s5, zI s4, zI s3, zI s2, zI s1, zA 13 32 209] σ =
  if x3 = 2 then zden w (d + 1) 241 78 [v0, v1, v2, zI x3, zI x4, v5, v6, v7, v8, zI x9, zI x10, zI x11, zI x12, zI x13, zI x14] [zI x13, zI s6, zI s5, zI s4, zI s3, zI s2, zI s1, zA 13 32 209] σ else if x4 = 2 then zden w (d + 1) 241 78 [v0, v1, v2, zI x3, zI x4, v5, v6, v7, v8, zI x9, zI x10, zI x11, zI x12, zI x13, zI x14] [zI x11, zI s6, zI s5, zI s4, zI s3, zI s2, zI s1, zA 13 32 209] σ else zden w (d + 1) 241 78 [v0, v1, v2, zI x3, zI x4, v5, v6, v7, v8, zI x9, zI x10, zI x11, zI x12, zI x13, zI x14] [zI x9, zI s6, zI s5, zI s4, zI s3, zI s2, zI s1, zA 13 32 209] σ :=
  (zunr_eq w zc_X12_boundTurn [36, 45, 56, 67, 78, 89] (d + 1) 241 rfl 141 _ _ _ _).symm
set_option maxRecDepth 100000 in
theorem hX12_boundTurn_78 (w : zW) (d : Nat) (x3 x4 x10 x12 x14 s1 s2 s3 s4 s5 s6 s7 : Int) (v0 v1 v2 v5 v6 v7 v8 v9 v11 v13 : zV) (σ : zMem) : zden w (d + 1) 241 78 [v0, v1, v2, zI x3, zI x4, v5, v6, v7, v8, v9, zI x10, v11, zI x12, v13, zI x14] [zI s7, zI s6, zI s5, zI s4, zI s3, zI s2, zI s1, zA 13 32 209] σ =
  if x3 = 2 then zden w (d + 1) 241 89 [v0, v1, v2, zI x3, zI x4, v5, v6, v7, v8, v9, zI x10, v11, zI x12, v13, zI x14] [zI x14, zI s7, zI s6, zI s5, zI s4, zI s3, zI s2, zI s1, zA 13 32 209] σ else if x4 = 2 then zden w (d + 1) 241 89 [v0, v1, v2, zI x3, zI x4, v5, v6, v7, v8, v9, zI x10, v11, zI x12, v13, zI x14] [zI x12, zI s7, zI s6, zI s5, zI s4, zI s3, zI s2, zI s1, zA 13 32 209] σ else zden w (d + 1) 241 89 [v0, v1, v2, zI x3, zI x4, v5, v6, v7, v8, v9, zI x10, v11, zI x12, v13, zI x14] [zI x10, zI s7, zI s6, zI s5, zI s4, zI s3, zI s2, zI s1, zA 13 32 209] σ :=
  (zunr_eq w zc_X12_boundTurn [36, 45, 56, 67, 78, 89] (d + 1) 241 rfl 141 _ _ _ _).symm
set_option maxRecDepth 100000 in
theorem hX12_boundTurn_89 (w : zW) (d : Nat) (s1 s2 s3 s4 s5 s6 s7 s8 : Int) (v0 v1 v2 v3 v4 v5 v6 v7 v8 v9 v10 v11 v12 v13 v14 : zV) (σ : zMem) : zden w (d + 1) 241 89 [v0, v1, v2, v3, v4, v5, v6, v7, v8, v9, v10, v11, v12, v13, v14] [zI s8, zI s7, zI s6, zI s5, zI s4, zI s3, zI s2, zI s1, zA 13 32 209] σ =
  (zcall w d 230 [zA 13 32 209, zI s1, zI s2, zI s3, zI s4, zI s5, zI s6, zI s7, zI s8] σ).bind fun r1 => some (0, r1.2) :=
  (zunr_eq w zc_X12_boundTurn [36, 45, 56, 67, 78, 89] (d + 1) 241 rfl 141 _ _ _ _).symm
set_option maxRecDepth 100000 in
theorem eX12_boundGrown (w : zW) (d : Nat) (x1 x2 : Int) (σ : zMem) : zcall w (d + 1) 242 [zA 13 32 209, zI x1, zI x2] σ =
  (zcall w d 216 [zA 13 32 209, zI x1, zI 0] σ).bind fun r1 => if r1.1 = 17 then if (0 : Int) ≤ x2 ∧ x2 < 9 then (zcall w d 340 [zJ (r1.2 212 x2)] r1.2).bind fun r2 => if (0 : Int) ≤ x2 ∧ x2 < 9 then (zcall w d 340 [zJ (r2.2 213 x2)] r2.2).bind fun r3 => if (0 : Int) ≤ x2 ∧ x2 < 9 then if 0 < (zar 22 (r3.2 212 x2) 0) then (zcall w d 344 [zJ r2.1, zJ r3.1] r3.2).bind fun r4 => if (0 : Int) ≤ x2 ∧ x2 < 9 then (zcall w d 342 [zJ r2.1, zJ r3.1] (zup r4.2 212 x2 r4.1)).bind fun r5 => if (0 : Int) ≤ x2 ∧ x2 < 9 then if (0 : Int) ≤ x2 ∧ x2 < 9 then (zcall w d 222 [zA 13 32 209, zI x1] (zup r5.2 213 x2 r5.1)).bind fun r6 => if (0 : Int) ≤ x2 ∧ x2 < 9 then if (0 : Int) ≤ x2 ∧ x2 < 9 then (zcall w d 222 [zA 13 32 209, zI x1] (zup r6.2 212 x2 (zar 13 ((zup r5.2 213 x2 r5.1) 212 x2) r6.1))).bind fun r7 => if (0 : Int) ≤ x2 ∧ x2 < 9 then some (0, zup r7.2 213 x2 (zar 13 ((zup r6.2 212 x2 (zar 13 ((zup r5.2 213 x2 r5.1) 212 x2) r6.1)) 213 x2) r7.1)) else none else none else none else none else none else none else if (0 : Int) ≤ x2 ∧ x2 < 9 then if (zar 22 (r3.2 213 x2) 0) < 0 then (zcall w d 344 [zJ r2.1, zJ r3.1] r3.2).bind fun r8 => if (0 : Int) ≤ x2 ∧ x2 < 9 then (zcall w d 342 [zJ r2.1, zJ r3.1] (zup r8.2 212 x2 r8.1)).bind fun r9 => if (0 : Int) ≤ x2 ∧ x2 < 9 then if (0 : Int) ≤ x2 ∧ x2 < 9 then (zcall w d 222 [zA 13 32 209, zI x1] (zup r9.2 213 x2 r9.1)).bind fun r10 => if (0 : Int) ≤ x2 ∧ x2 < 9 then if (0 : Int) ≤ x2 ∧ x2 < 9 then (zcall w d 222 [zA 13 32 209, zI x1] (zup r10.2 212 x2 (zar 13 ((zup r9.2 213 x2 r9.1) 212 x2) r10.1))).bind fun r11 => if (0 : Int) ≤ x2 ∧ x2 < 9 then some (0, zup r11.2 213 x2 (zar 13 ((zup r10.2 212 x2 (zar 13 ((zup r9.2 213 x2 r9.1) 212 x2) r10.1)) 213 x2) r11.1)) else none else none else none else none else none else none else if (0 : Int) ≤ x2 ∧ x2 < 9 then (zcall w d 342 [zJ r2.1, zJ r3.1] (zup r3.2 212 x2 0)).bind fun r12 => if (0 : Int) ≤ x2 ∧ x2 < 9 then if (0 : Int) ≤ x2 ∧ x2 < 9 then (zcall w d 222 [zA 13 32 209, zI x1] (zup r12.2 213 x2 r12.1)).bind fun r13 => if (0 : Int) ≤ x2 ∧ x2 < 9 then if (0 : Int) ≤ x2 ∧ x2 < 9 then (zcall w d 222 [zA 13 32 209, zI x1] (zup r13.2 212 x2 (zar 13 ((zup r12.2 213 x2 r12.1) 212 x2) r13.1))).bind fun r14 => if (0 : Int) ≤ x2 ∧ x2 < 9 then some (0, zup r14.2 213 x2 (zar 13 ((zup r13.2 212 x2 (zar 13 ((zup r12.2 213 x2 r12.1) 212 x2) r13.1)) 213 x2) r14.1)) else none else none else none else none else none else none else none else none else none else none else if (0 : Int) ≤ x2 ∧ x2 < 9 then (zcall w d 222 [zA 13 32 209, zI x1] r1.2).bind fun r15 => if (0 : Int) ≤ x2 ∧ x2 < 9 then if (0 : Int) ≤ x2 ∧ x2 < 9 then (zcall w d 222 [zA 13 32 209, zI x1] (zup r15.2 212 x2 (zar 13 (r1.2 212 x2) r15.1))).bind fun r16 => if (0 : Int) ≤ x2 ∧ x2 < 9 then some (0, zup r16.2 213 x2 (zar 13 ((zup r15.2 212 x2 (zar 13 (r1.2 212 x2) r15.1)) 213 x2) r16.1)) else none else none else none else none :=
  (zcall_eq rfl).trans (zunr_eq w zc_X12_boundGrown [] (d + 1) 242 rfl 119 _ _ _ _).symm
set_option maxRecDepth 100000 in
theorem eX12_xOf (w : zW) (d : Nat) (x1 : Int) (σ : zMem) : zcall w d 243 [zI x1] σ =
  some (zar 10 x1 8, σ) :=
  (zcall_eq rfl).trans (zunr_eq w zc_X12_xOf [] d 243 rfl 54 _ _ _ _).symm
set_option maxRecDepth 100000 in
theorem eX12_yOf (w : zW) (d : Nat) (x1 : Int) (σ : zMem) : zcall w d 244 [zI x1] σ =
  some (zar 6 (zar 10 x1 4) 15, σ) :=
  (zcall_eq rfl).trans (zunr_eq w zc_X12_yOf [] d 244 rfl 56 _ _ _ _).symm
set_option maxRecDepth 100000 in
theorem eX12_zOf (w : zW) (d : Nat) (x1 : Int) (σ : zMem) : zcall w d 245 [zI x1] σ =
  some (zar 6 x1 15, σ) :=
  (zcall_eq rfl).trans (zunr_eq w zc_X12_zOf [] d 245 rfl 54 _ _ _ _).symm
set_option maxRecDepth 100000 in
theorem eX12_isPlace (w : zW) (d : Nat) (x1 : Int) (σ : zMem) : zcall w (d + 1) 246 [zI x1] σ =
  (zcall w d 213 [zJ x1, zJ 0, zJ 4095] σ).bind fun r1 => if 0 ≤ r1.1 ∧ r1.1 ≤ 1 then some (r1.1, r1.2) else none :=
  (zcall_eq rfl).trans (zunr_eq w zc_X12_isPlace [] (d + 1) 246 rfl 56 _ _ _ _).symm
set_option maxRecDepth 100000 in
theorem eX12_bounds (w : zW) (d : Nat) (x1 x2 x3 x4 : Int) (σ : zMem) : zcall w (d + 1) 247 [zA 13 32 209, zI x1, zI x2, zI x3, zI x4] σ =
  (zcall w d 218 [zA 13 32 209, zI x1] σ).bind fun r1 => if r1.1 = 0 then (zcall w d 215 [zA 13 32 209, zI (-62)] r1.2).bind fun r2 => some (r2.1, r2.2) else (zcall w d 246 [zI x2] r1.2).bind fun r3 => if r3.1 = 0 then (zcall w d 215 [zA 13 32 209, zI (-62)] r3.2).bind fun r4 => some (r4.1, r4.2) else (zcall w d 246 [zI x3] r3.2).bind fun r5 => if r5.1 = 0 then (zcall w d 215 [zA 13 32 209, zI (-62)] r5.2).bind fun r6 => some (r6.1, r6.2) else (zcall w d 243 [zI x2] r5.2).bind fun r7 => (zcall w d 243 [zI x3] r7.2).bind fun r8 => if r8.1 < r7.1 then (zcall w d 215 [zA 13 32 209, zI (-62)] r8.2).bind fun r9 => some (r9.1, r9.2) else (zcall w d 244 [zI x2] r8.2).bind fun r10 => (zcall w d 244 [zI x3] r10.2).bind fun r11 => if r11.1 < r10.1 then (zcall w d 215 [zA 13 32 209, zI (-62)] r11.2).bind fun r12 => some (r12.1, r12.2) else (zcall w d 245 [zI x2] r11.2).bind fun r13 => (zcall w d 245 [zI x3] r13.2).bind fun r14 => if r14.1 < r13.1 then (zcall w d 215 [zA 13 32 209, zI (-62)] r14.2).bind fun r15 => some (r15.1, r15.2) else (zcall w d 213 [zJ x4, zJ 0, zJ 3] r14.2).bind fun r16 => if r16.1 = 0 then (zcall w d 215 [zA 13 32 209, zI (-62)] r16.2).bind fun r17 => some (r17.1, r17.2) else (zcall w d 243 [zI x2] r16.2).bind fun r18 => (zcall w d 243 [zI x3] r18.2).bind fun r19 => (zcall w d 244 [zI x2] r19.2).bind fun r20 => (zcall w d 244 [zI x3] r20.2).bind fun r21 => (zcall w d 245 [zI x2] r21.2).bind fun r22 => (zcall w d 245 [zI x3] r22.2).bind fun r23 => (zcall w d 230 [zA 13 32 209, zI x1, zI 0, zI r18.1, zI r19.1, zI r20.1, zI r21.1, zI r22.1, zI r23.1] r23.2).bind fun r24 => if x4 < 2 then if (zar 4 x4 2) = 0 then (zcall w d 226 [zJ (r24.2 212 0), zI 1] r24.2).bind fun r25 => some (r25.1, r25.2) else (zcall w d 226 [zJ (r24.2 212 0), zI 0] r24.2).bind fun r26 => some (r26.1, r26.2) else if (zar 4 x4 2) = 0 then (zcall w d 226 [zJ (r24.2 213 0), zI 1] r24.2).bind fun r27 => some (r27.1, r27.2) else (zcall w d 226 [zJ (r24.2 213 0), zI 0] r24.2).bind fun r28 => some (r28.1, r28.2) :=
  (zcall_eq rfl).trans (zunr_eq w zc_X12_bounds [] (d + 1) 247 rfl 122 _ _ _ _).symm
set_option maxRecDepth 100000 in
theorem eX12_isInside (w : zW) (d : Nat) (x1 x2 : Int) (σ : zMem) : zcall w (d + 1) 248 [zA 13 32 209, zI x1, zI x2] σ =
  (zcall w d 243 [zI x2] σ).bind fun r1 => (zcall w d 244 [zI x2] r1.2).bind fun r2 => (zcall w d 245 [zI x2] r2.2).bind fun r3 => (zcall w d 219 [zA 13 32 209, zI x1, zI r1.1, zI r2.1, zI r3.1] r3.2).bind fun r4 => if 0 < (zar 22 r4.1 0) then some (0, r4.2) else some (1, r4.2) :=
  (zcall_eq rfl).trans (zunr_eq w zc_X12_isInside [] (d + 1) 248 rfl 66 _ _ _ _).symm
set_option maxRecDepth 100000 in
theorem eX12_fills (w : zW) (d : Nat) (x1 x2 : Int) (σ : zMem) : zcall w (d + 1) 249 [zA 13 32 209, zI x1, zI x2] σ =
  zden w (d + 1) 249 4 [zA 13 32 209, zI x1, zI x2, zI 0, zI 0] [] σ :=
  (zcall_eq rfl).trans (zunr_eq w zc_X12_fills [4] (d + 1) 249 rfl 84 _ _ _ _).symm
set_option maxRecDepth 100000 in
theorem hX12_fills_4 (w : zW) (d : Nat) (x1 x2 x3 x4 : Int) (σ : zMem) : zden w (d + 1) 249 4 [zA 13 32 209, zI x1, zI x2, zI x3, zI x4] [] σ =
  if x4 < 4096 then if (0 : Int) ≤ x1 ∧ x1 < 4 then (zcall w d 248 [zA 13 32 209, zI x2, zI x4] σ).bind fun r1 => if (0 : Int) ≤ x4 ∧ x4 < 4096 then if (0 : Int) ≤ x1 ∧ x1 < 4 then if (0 : Int) ≤ x4 ∧ x4 < 4096 then if ((zup r1.2 (zR w 214 x1) x4 (r1.1 % 2)) (zR w 214 x1) x4) = 0 then zden w (d + 1) 249 4 [zA 13 32 209, zI x1, zI x2, zI (zar 0 x3 0), zI (zar 0 x4 1)] [] (zup r1.2 (zR w 214 x1) x4 (r1.1 % 2)) else zden w (d + 1) 249 4 [zA 13 32 209, zI x1, zI x2, zI (zar 0 x3 1), zI (zar 0 x4 1)] [] (zup r1.2 (zR w 214 x1) x4 (r1.1 % 2)) else none else none else none else none else some (x3, σ) :=
  (zunr_eq w zc_X12_fills [4] (d + 1) 249 rfl 84 _ _ _ _).symm
set_option maxRecDepth 100000 in
theorem eX12_in (w : zW) (d : Nat) (x1 x2 : Int) (σ : zMem) : zcall w (d + 1) 250 [zA 13 32 209, zI x1, zI x2] σ =
  (zcall w d 218 [zA 13 32 209, zI x1] σ).bind fun r1 => if r1.1 = 0 then (zcall w d 214 [zA 13 32 209, zI (-62)] r1.2).bind fun r2 => some (r2.1, r2.2) else (zcall w d 246 [zI x2] r1.2).bind fun r3 => if r3.1 = 0 then (zcall w d 214 [zA 13 32 209, zI (-62)] r3.2).bind fun r4 => some (r4.1, r4.2) else (zcall w d 248 [zA 13 32 209, zI x1, zI x2] r3.2).bind fun r5 => if r5.1 = 0 then some (0, r5.2) else some (1, r5.2) :=
  (zcall_eq rfl).trans (zunr_eq w zc_X12_in [] (d + 1) 250 rfl 70 _ _ _ _).symm
set_option maxRecDepth 100000 in
theorem eX12_looked (w : zW) (d : Nat) (x1 x2 x3 x4 x5 : Int) (σ : zMem) : zcall w (d + 1) 251 [zA 13 32 209, zI x1, zI x2, zI x3, zI x4, zI x5] σ =
  (zcall w d 230 [zA 13 32 209, zI x1, zI 0, zI x2, zI (zar 1 (zar 0 x2 x5) 1), zI x3, zI (zar 1 (zar 0 x3 x5) 1), zI x4, zI (zar 1 (zar 0 x4 x5) 1)] σ).bind fun r1 => if 1 < x5 then if 0 < (zar 22 (r1.2 213 0) 0) then if 0 < (zar 22 (r1.2 212 0) 0) then some (1, r1.2) else zden w (d + 1) 251 47 [zA 13 32 209, zI x1, zI x2, zI x3, zI x4, zI x5, zI 1, zI (zar 3 x5 2), zI 0] [] r1.2 else some (1, r1.2) else some (1, r1.2) :=
  (zcall_eq rfl).trans (zunr_eq w zc_X12_looked [47] (d + 1) 251 rfl 134 _ _ _ _).symm
set_option maxRecDepth 100000 in
theorem hX12_looked_47 (w : zW) (d : Nat) (x1 x2 x3 x4 x6 x7 x8 : Int) (v5 : zV) (σ : zMem) : zden w (d + 1) 251 47 [zA 13 32 209, zI x1, zI x2, zI x3, zI x4, v5, zI x6, zI x7, zI x8] [] σ =
  if x8 < 8 then (zcall w d 251 [zA 13 32 209, zI x1, zI (zar 0 x2 (zar 2 x7 (zar 6 x8 1))), zI (zar 0 x3 (zar 2 x7 (zar 6 (zar 10 x8 1) 1))), zI (zar 0 x4 (zar 2 x7 (zar 10 x8 2))), zI x7] σ).bind fun r1 => zden w (d + 1) 251 47 [zA 13 32 209, zI x1, zI x2, zI x3, zI x4, (zlng 0 v5), zI (zar 0 x6 r1.1), zI x7, zI (zar 0 x8 1)] [] r1.2 else some (x6, σ) :=
  (zunr_eq w zc_X12_looked [47] (d + 1) 251 rfl 134 _ _ _ _).symm
set_option maxRecDepth 100000 in
theorem eX12_count (w : zW) (d : Nat) (x1 x2 : Int) (σ : zMem) : zcall w (d + 1) 252 [zA 13 32 209, zI x1, zI x2] σ =
  (zcall w d 218 [zA 13 32 209, zI x1] σ).bind fun r1 => if r1.1 = 0 then (zcall w d 214 [zA 13 32 209, zI (-62)] r1.2).bind fun r2 => some (r2.1, r2.2) else (zcall w d 213 [zJ x2, zJ 0, zJ 1] r1.2).bind fun r3 => if r3.1 = 0 then (zcall w d 214 [zA 13 32 209, zI (-62)] r3.2).bind fun r4 => some (r4.1, r4.2) else if x2 = 0 then (zcall w d 249 [zA 13 32 209, zI 0, zI x1] r3.2).bind fun r5 => some (r5.1, r5.2) else (zcall w d 251 [zA 13 32 209, zI x1, zI 0, zI 0, zI 0, zI 16] r3.2).bind fun r6 => some (r6.1, r6.2) :=
  (zcall_eq rfl).trans (zunr_eq w zc_X12_count [] (d + 1) 252 rfl 79 _ _ _ _).symm
set_option maxRecDepth 100000 in
theorem eX12_placeOf (w : zW) (d : Nat) (x1 x2 : Int) (σ : zMem) : zcall w (d + 1) 253 [zA 13 32 209, zI x1, zI x2] σ =
  (zcall w d 218 [zA 13 32 209, zI x1] σ).bind fun r1 => if r1.1 = 0 then (zcall w d 214 [zA 13 32 209, zI (-62)] r1.2).bind fun r2 => some (r2.1, r2.2) else if x2 < 0 then (zcall w d 214 [zA 13 32 209, zI (-62)] r1.2).bind fun r3 => some (r3.1, r3.2) else zden w (d + 1) 253 14 [zA 13 32 209, zI x1, zI x2, zI 0, zI 0] [] r1.2 :=
  (zcall_eq rfl).trans (zunr_eq w zc_X12_placeOf [14] (d + 1) 253 rfl 84 _ _ _ _).symm
set_option maxRecDepth 100000 in
theorem hX12_placeOf_14 (w : zW) (d : Nat) (x1 x2 x3 x4 : Int) (σ : zMem) : zden w (d + 1) 253 14 [zA 13 32 209, zI x1, zI x2, zI x3, zI x4] [] σ =
  if x4 < 4096 then (zcall w d 248 [zA 13 32 209, zI x1, zI x4] σ).bind fun r1 => if r1.1 = 0 then zden w (d + 1) 253 14 [zA 13 32 209, zI x1, zI x2, zI x3, zI (zar 0 x4 1)] [] r1.2 else if x3 = x2 then some (x4, r1.2) else zden w (d + 1) 253 14 [zA 13 32 209, zI x1, zI x2, zI (zar 0 x3 1), zI (zar 0 x4 1)] [] r1.2 else (zcall w d 214 [zA 13 32 209, zI (-62)] σ).bind fun r2 => some (r2.1, r2.2) :=
  (zunr_eq w zc_X12_placeOf [14] (d + 1) 253 rfl 84 _ _ _ _).symm
set_option maxRecDepth 100000 in
theorem eX12_axisOf (w : zW) (d : Nat) (x1 x2 : Int) (σ : zMem) : zcall w (d + 1) 254 [zI x1, zI x2] σ =
  (zcall w d 243 [zI x1] σ).bind fun r1 => (zcall w d 244 [zI x1] r1.2).bind fun r2 => (zcall w d 245 [zI x1] r2.2).bind fun r3 => (zcall w d 223 [zI x2, zI r1.1, zI r2.1, zI r3.1] r3.2).bind fun r4 => some (r4.1, r4.2) :=
  (zcall_eq rfl).trans (zunr_eq w zc_X12_axisOf [] (d + 1) 254 rfl 59 _ _ _ _).symm
set_option maxRecDepth 100000 in
theorem eX12_slice (w : zW) (d : Nat) (x1 x2 x3 : Int) (σ : zMem) : zcall w (d + 1) 255 [zA 13 32 209, zI x1, zI x2, zI x3] σ =
  (zcall w d 218 [zA 13 32 209, zI x1] σ).bind fun r1 => if r1.1 = 0 then (zcall w d 214 [zA 13 32 209, zI (-62)] r1.2).bind fun r2 => some (r2.1, r2.2) else (zcall w d 213 [zJ x2, zJ 0, zJ 2] r1.2).bind fun r3 => if r3.1 = 0 then (zcall w d 214 [zA 13 32 209, zI (-62)] r3.2).bind fun r4 => some (r4.1, r4.2) else (zcall w d 213 [zJ x3, zJ 0, zJ 15] r3.2).bind fun r5 => if r5.1 = 0 then (zcall w d 214 [zA 13 32 209, zI (-62)] r5.2).bind fun r6 => some (r6.1, r6.2) else zden w (d + 1) 255 24 [zA 13 32 209, zI x1, zI x2, zI x3, zI 0, zI 0] [] r5.2 :=
  (zcall_eq rfl).trans (zunr_eq w zc_X12_slice [24] (d + 1) 255 rfl 97 _ _ _ _).symm
set_option maxRecDepth 100000 in
theorem hX12_slice_24 (w : zW) (d : Nat) (x1 x2 x3 x4 x5 : Int) (σ : zMem) : zden w (d + 1) 255 24 [zA 13 32 209, zI x1, zI x2, zI x3, zI x4, zI x5] [] σ =
  if x5 < 4096 then (zcall w d 254 [zI x5, zI x2] σ).bind fun r1 => if r1.1 = x3 then (zcall w d 248 [zA 13 32 209, zI x1, zI x5] r1.2).bind fun r2 => if r2.1 = 0 then zden w (d + 1) 255 24 [zA 13 32 209, zI x1, zI x2, zI x3, zI (zar 0 x4 0), zI (zar 0 x5 1)] [] r2.2 else zden w (d + 1) 255 24 [zA 13 32 209, zI x1, zI x2, zI x3, zI (zar 0 x4 1), zI (zar 0 x5 1)] [] r2.2 else zden w (d + 1) 255 24 [zA 13 32 209, zI x1, zI x2, zI x3, zI (zar 0 x4 0), zI (zar 0 x5 1)] [] r1.2 else some (x4, σ) :=
  (zunr_eq w zc_X12_slice [24] (d + 1) 255 rfl 97 _ _ _ _).symm
set_option maxRecDepth 100000 in
theorem eX12_reach (w : zW) (d : Nat) (x1 x2 x3 : Int) (σ : zMem) : zcall w (d + 1) 256 [zA 13 32 209, zI x1, zI x2, zI x3] σ =
  (zcall w d 218 [zA 13 32 209, zI x1] σ).bind fun r1 => if r1.1 = 0 then (zcall w d 214 [zA 13 32 209, zI (-62)] r1.2).bind fun r2 => some (r2.1, r2.2) else (zcall w d 213 [zJ x2, zJ 0, zJ 2] r1.2).bind fun r3 => if r3.1 = 0 then (zcall w d 214 [zA 13 32 209, zI (-62)] r3.2).bind fun r4 => some (r4.1, r4.2) else (zcall w d 213 [zJ x3, zJ 0, zJ 1] r3.2).bind fun r5 => if r5.1 = 0 then (zcall w d 214 [zA 13 32 209, zI (-62)] r5.2).bind fun r6 => some (r6.1, r6.2) else zden w (d + 1) 256 24 [zA 13 32 209, zI x1, zI x2, zI x3, zI (-1), zI 0, zU] [] r5.2 :=
  (zcall_eq rfl).trans (zunr_eq w zc_X12_reach [24] (d + 1) 256 rfl 104 _ _ _ _).symm
set_option maxRecDepth 100000 in
theorem hX12_reach_24 (w : zW) (d : Nat) (x1 x2 x3 x4 x5 : Int) (v6 : zV) (σ : zMem) : zden w (d + 1) 256 24 [zA 13 32 209, zI x1, zI x2, zI x3, zI x4, zI x5, v6] [] σ =
  if x5 < 4096 then (zcall w d 248 [zA 13 32 209, zI x1, zI x5] σ).bind fun r1 => if r1.1 = 0 then zden w (d + 1) 256 24 [zA 13 32 209, zI x1, zI x2, zI x3, zI x4, zI (zar 0 x5 1), v6] [] r1.2 else (zcall w d 254 [zI x5, zI x2] r1.2).bind fun r2 => if x4 < 0 then zden w (d + 1) 256 24 [zA 13 32 209, zI x1, zI x2, zI x3, zI r2.1, zI (zar 0 x5 1), zI r2.1] [] r2.2 else if x3 = 0 then (zcall w d 343 [zI x4, zI r2.1] r2.2).bind fun r3 => zden w (d + 1) 256 24 [zA 13 32 209, zI x1, zI x2, zI x3, zI r3.1, zI (zar 0 x5 1), zI r2.1] [] r3.2 else (zcall w d 341 [zI x4, zI r2.1] r2.2).bind fun r4 => zden w (d + 1) 256 24 [zA 13 32 209, zI x1, zI x2, zI x3, zI r4.1, zI (zar 0 x5 1), zI r2.1] [] r4.2 else some (x4, σ) :=
  (zunr_eq w zc_X12_reach [24] (d + 1) 256 rfl 104 _ _ _ _).symm
set_option maxRecDepth 100000 in
theorem eX12_ray (w : zW) (d : Nat) (x1 x2 x3 x4 x5 x6 : Int) (σ : zMem) : zcall w (d + 1) 257 [zA 13 32 209, zI x1, zI x2, zI x3, zI x4, zI x5, zI x6] σ =
  (zcall w d 218 [zA 13 32 209, zI x1] σ).bind fun r1 => if r1.1 = 0 then (zcall w d 214 [zA 13 32 209, zI (-62)] r1.2).bind fun r2 => some (r2.1, r2.2) else (zcall w d 246 [zI x2] r1.2).bind fun r3 => if r3.1 = 0 then (zcall w d 214 [zA 13 32 209, zI (-62)] r3.2).bind fun r4 => some (r4.1, r4.2) else (zcall w d 213 [zJ x3, zJ (-4), zJ 4] r3.2).bind fun r5 => if r5.1 = 0 then (zcall w d 214 [zA 13 32 209, zI (-62)] r5.2).bind fun r6 => some (r6.1, r6.2) else (zcall w d 213 [zJ x4, zJ (-4), zJ 4] r5.2).bind fun r7 => if r7.1 = 0 then (zcall w d 214 [zA 13 32 209, zI (-62)] r7.2).bind fun r8 => some (r8.1, r8.2) else (zcall w d 213 [zJ x5, zJ (-4), zJ 4] r7.2).bind fun r9 => if r9.1 = 0 then (zcall w d 214 [zA 13 32 209, zI (-62)] r9.2).bind fun r10 => some (r10.1, r10.2) else if x3 = 0 then if x4 = 0 then if x5 = 0 then (zcall w d 214 [zA 13 32 209, zI (-62)] r9.2).bind fun r11 => some (r11.1, r11.2) else (zcall w d 213 [zJ x6, zJ 0, zJ 2] r9.2).bind fun r12 => if r12.1 = 0 then (zcall w d 214 [zA 13 32 209, zI (-62)] r12.2).bind fun r13 => some (r13.1, r13.2) else (zcall w d 243 [zI x2] r12.2).bind fun r14 => (zcall w d 244 [zI x2] r14.2).bind fun r15 => (zcall w d 245 [zI x2] r15.2).bind fun r16 => zden w (d + 1) 257 60 [zA 13 32 209, zI x1, zI x2, zI x3, zI x4, zI x5, zI x6, zI (-1), zI 0, zI 0, zI 0, zI r14.1, zI r15.1, zI r16.1, zI 0, zU] [] r16.2 else (zcall w d 213 [zJ x6, zJ 0, zJ 2] r9.2).bind fun r17 => if r17.1 = 0 then (zcall w d 214 [zA 13 32 209, zI (-62)] r17.2).bind fun r18 => some (r18.1, r18.2) else (zcall w d 243 [zI x2] r17.2).bind fun r19 => (zcall w d 244 [zI x2] r19.2).bind fun r20 => (zcall w d 245 [zI x2] r20.2).bind fun r21 => zden w (d + 1) 257 60 [zA 13 32 209, zI x1, zI x2, zI x3, zI x4, zI x5, zI x6, zI (-1), zI 0, zI 0, zI 0, zI r19.1, zI r20.1, zI r21.1, zI 0, zU] [] r21.2 else (zcall w d 213 [zJ x6, zJ 0, zJ 2] r9.2).bind fun r22 => if r22.1 = 0 then (zcall w d 214 [zA 13 32 209, zI (-62)] r22.2).bind fun r23 => some (r23.1, r23.2) else (zcall w d 243 [zI x2] r22.2).bind fun r24 => (zcall w d 244 [zI x2] r24.2).bind fun r25 => (zcall w d 245 [zI x2] r25.2).bind fun r26 => zden w (d + 1) 257 60 [zA 13 32 209, zI x1, zI x2, zI x3, zI x4, zI x5, zI x6, zI (-1), zI 0, zI 0, zI 0, zI r24.1, zI r25.1, zI r26.1, zI 0, zU] [] r26.2 :=
  (zcall_eq rfl).trans (zunr_eq w zc_X12_ray [60] (d + 1) 257 rfl 195 _ _ _ _).symm
set_option maxRecDepth 100000 in
theorem hX12_ray_60 (w : zW) (d : Nat) (x1 x3 x4 x5 x6 x7 x8 x9 x10 x11 x12 x13 x14 : Int) (v2 v15 : zV) (σ : zMem) : zden w (d + 1) 257 60 [zA 13 32 209, zI x1, v2, zI x3, zI x4, zI x5, zI x6, zI x7, zI x8, zI x9, zI x10, zI x11, zI x12, zI x13, zI x14, v15] [] σ =
  (zcall w d 213 [zJ x11, zJ 0, zJ 15] σ).bind fun r1 => if r1.1 = 0 then if x6 = 0 then some (x7, r1.2) else if x6 = 1 then some (x8, r1.2) else some (x9, r1.2) else (zcall w d 213 [zJ x12, zJ 0, zJ 15] r1.2).bind fun r2 => if r2.1 = 0 then if x6 = 0 then some (x7, r2.2) else if x6 = 1 then some (x8, r2.2) else some (x9, r2.2) else (zcall w d 213 [zJ x13, zJ 0, zJ 15] r2.2).bind fun r3 => if r3.1 = 0 then if x6 = 0 then some (x7, r3.2) else if x6 = 1 then some (x8, r3.2) else some (x9, r3.2) else (zcall w d 219 [zA 13 32 209, zI x1, zI x11, zI x12, zI x13] r3.2).bind fun r4 => if 0 < (zar 22 r4.1 0) then if 0 < x14 then if 0 = x10 then zden w (d + 1) 257 60 [zA 13 32 209, zI x1, v2, zI x3, zI x4, zI x5, zI x6, zI x7, zI (zar 0 x8 0), zI (zar 0 x9 0), zI 0, zI (zar 0 x11 x3), zI (zar 0 x12 x4), zI (zar 0 x13 x5), zI (zar 0 x14 1), zI 0] [] r4.2 else zden w (d + 1) 257 60 [zA 13 32 209, zI x1, v2, zI x3, zI x4, zI x5, zI x6, zI x7, zI (zar 0 x8 0), zI (zar 0 x9 1), zI 0, zI (zar 0 x11 x3), zI (zar 0 x12 x4), zI (zar 0 x13 x5), zI (zar 0 x14 1), zI 0] [] r4.2 else zden w (d + 1) 257 60 [zA 13 32 209, zI x1, v2, zI x3, zI x4, zI x5, zI x6, zI x7, zI (zar 0 x8 0), zI (zar 0 x9 0), zI 0, zI (zar 0 x11 x3), zI (zar 0 x12 x4), zI (zar 0 x13 x5), zI (zar 0 x14 1), zI 0] [] r4.2 else if x7 < 0 then if 0 < x14 then if 1 = x10 then zden w (d + 1) 257 60 [zA 13 32 209, zI x1, v2, zI x3, zI x4, zI x5, zI x6, zI x14, zI (zar 0 x8 1), zI (zar 0 x9 0), zI 1, zI (zar 0 x11 x3), zI (zar 0 x12 x4), zI (zar 0 x13 x5), zI (zar 0 x14 1), zI 1] [] r4.2 else zden w (d + 1) 257 60 [zA 13 32 209, zI x1, v2, zI x3, zI x4, zI x5, zI x6, zI x14, zI (zar 0 x8 1), zI (zar 0 x9 1), zI 1, zI (zar 0 x11 x3), zI (zar 0 x12 x4), zI (zar 0 x13 x5), zI (zar 0 x14 1), zI 1] [] r4.2 else zden w (d + 1) 257 60 [zA 13 32 209, zI x1, v2, zI x3, zI x4, zI x5, zI x6, zI x14, zI (zar 0 x8 1), zI (zar 0 x9 0), zI 1, zI (zar 0 x11 x3), zI (zar 0 x12 x4), zI (zar 0 x13 x5), zI (zar 0 x14 1), zI 1] [] r4.2 else if 0 < x14 then if 1 = x10 then zden w (d + 1) 257 60 [zA 13 32 209, zI x1, v2, zI x3, zI x4, zI x5, zI x6, zI x7, zI (zar 0 x8 1), zI (zar 0 x9 0), zI 1, zI (zar 0 x11 x3), zI (zar 0 x12 x4), zI (zar 0 x13 x5), zI (zar 0 x14 1), zI 1] [] r4.2 else zden w (d + 1) 257 60 [zA 13 32 209, zI x1, v2, zI x3, zI x4, zI x5, zI x6, zI x7, zI (zar 0 x8 1), zI (zar 0 x9 1), zI 1, zI (zar 0 x11 x3), zI (zar 0 x12 x4), zI (zar 0 x13 x5), zI (zar 0 x14 1), zI 1] [] r4.2 else zden w (d + 1) 257 60 [zA 13 32 209, zI x1, v2, zI x3, zI x4, zI x5, zI x6, zI x7, zI (zar 0 x8 1), zI (zar 0 x9 0), zI 1, zI (zar 0 x11 x3), zI (zar 0 x12 x4), zI (zar 0 x13 x5), zI (zar 0 x14 1), zI 1] [] r4.2 :=
  (zunr_eq w zc_X12_ray [60] (d + 1) 257 rfl 195 _ _ _ _).symm
set_option maxRecDepth 100000 in
theorem eX12_neighbour (w : zW) (d : Nat) (x1 x2 : Int) (σ : zMem) : zcall w (d + 1) 258 [zI x1, zI x2] σ =
  if x2 < 2 then (zcall w d 254 [zI x1, zI (zar 3 x2 2)] σ).bind fun r1 => if (zar 4 x2 2) = 0 then (zcall w d 213 [zJ (zar 0 r1.1 1), zJ 0, zJ 15] r1.2).bind fun r2 => if r2.1 = 0 then some (-1, r2.2) else if (zar 4 x2 2) = 0 then some (zar 0 x1 256, r2.2) else some (zar 0 x1 (zar 5 256 0), r2.2) else (zcall w d 213 [zJ (zar 0 r1.1 (-1)), zJ 0, zJ 15] r1.2).bind fun r3 => if r3.1 = 0 then some (-1, r3.2) else if (zar 4 x2 2) = 0 then some (zar 0 x1 256, r3.2) else some (zar 0 x1 (zar 5 256 0), r3.2) else if x2 < 4 then (zcall w d 254 [zI x1, zI (zar 3 x2 2)] σ).bind fun r4 => if (zar 4 x2 2) = 0 then (zcall w d 213 [zJ (zar 0 r4.1 1), zJ 0, zJ 15] r4.2).bind fun r5 => if r5.1 = 0 then some (-1, r5.2) else if (zar 4 x2 2) = 0 then some (zar 0 x1 16, r5.2) else some (zar 0 x1 (zar 5 16 0), r5.2) else (zcall w d 213 [zJ (zar 0 r4.1 (-1)), zJ 0, zJ 15] r4.2).bind fun r6 => if r6.1 = 0 then some (-1, r6.2) else if (zar 4 x2 2) = 0 then some (zar 0 x1 16, r6.2) else some (zar 0 x1 (zar 5 16 0), r6.2) else (zcall w d 254 [zI x1, zI (zar 3 x2 2)] σ).bind fun r7 => if (zar 4 x2 2) = 0 then (zcall w d 213 [zJ (zar 0 r7.1 1), zJ 0, zJ 15] r7.2).bind fun r8 => if r8.1 = 0 then some (-1, r8.2) else if (zar 4 x2 2) = 0 then some (zar 0 x1 1, r8.2) else some (zar 0 x1 (zar 5 1 0), r8.2) else (zcall w d 213 [zJ (zar 0 r7.1 (-1)), zJ 0, zJ 15] r7.2).bind fun r9 => if r9.1 = 0 then some (-1, r9.2) else if (zar 4 x2 2) = 0 then some (zar 0 x1 1, r9.2) else some (zar 0 x1 (zar 5 1 0), r9.2) :=
  (zcall_eq rfl).trans (zunr_eq w zc_X12_neighbour [] (d + 1) 258 rfl 95 _ _ _ _).symm
set_option maxRecDepth 100000 in
theorem eX12_skinOf (w : zW) (d : Nat) (x1 : Int) (σ : zMem) : zcall w (d + 1) 259 [zA 13 32 209, zI x1] σ =
  zden w (d + 1) 259 4 [zA 13 32 209, zI x1, zI 0, zI 0, zU, zU, zU] [] σ :=
  (zcall_eq rfl).trans (zunr_eq w zc_X12_skinOf [4, 11] (d + 1) 259 rfl 104 _ _ _ _).symm
set_option maxRecDepth 100000 in
theorem hX12_skinOf_4 (w : zW) (d : Nat) (x1 x2 x3 : Int) (v4 v5 v6 : zV) (σ : zMem) : zden w (d + 1) 259 4 [zA 13 32 209, zI x1, zI x2, zI x3, v4, v5, v6] [] σ =
  if x3 < 4096 then zden w (d + 1) 259 11 [zA 13 32 209, zI x1, zI x2, zI x3, zI 0, zI 0, v6] [] σ else some (x2, σ) :=
  (zunr_eq w zc_X12_skinOf [4, 11] (d + 1) 259 rfl 104 _ _ _ _).symm
set_option maxRecDepth 100000 in
theorem hX12_skinOf_11 (w : zW) (d : Nat) (x1 x2 x3 x4 x5 : Int) (v6 : zV) (σ : zMem) : zden w (d + 1) 259 11 [zA 13 32 209, zI x1, zI x2, zI x3, zI x4, zI x5, v6] [] σ =
  if (0 : Int) ≤ x1 ∧ x1 < 4 then if (0 : Int) ≤ x3 ∧ x3 < 4096 then if (σ (zR w 214 x1) x3) = 0 then if x4 = 0 then zden w (d + 1) 259 4 [zA 13 32 209, zI x1, zI (zar 0 x2 0), zI (zar 0 x3 1), zI x4, zI x5, v6] [] σ else zden w (d + 1) 259 4 [zA 13 32 209, zI x1, zI (zar 0 x2 1), zI (zar 0 x3 1), zI x4, zI x5, v6] [] σ else if x5 < 6 then (zcall w d 258 [zI x3, zI x5] σ).bind fun r1 => if r1.1 < 0 then zden w (d + 1) 259 11 [zA 13 32 209, zI x1, zI x2, zI x3, zI (zar 7 x4 1), zI (zar 0 x5 1), zI r1.1] [] r1.2 else if (0 : Int) ≤ x1 ∧ x1 < 4 then if (0 : Int) ≤ r1.1 ∧ r1.1 < 4096 then if (r1.2 (zR w 214 x1) r1.1) = 0 then zden w (d + 1) 259 11 [zA 13 32 209, zI x1, zI x2, zI x3, zI (zar 7 x4 1), zI (zar 0 x5 1), zI r1.1] [] r1.2 else zden w (d + 1) 259 11 [zA 13 32 209, zI x1, zI x2, zI x3, zI (zar 7 x4 0), zI (zar 0 x5 1), zI r1.1] [] r1.2 else none else none else if x4 = 0 then zden w (d + 1) 259 4 [zA 13 32 209, zI x1, zI (zar 0 x2 0), zI (zar 0 x3 1), zI x4, zI x5, v6] [] σ else zden w (d + 1) 259 4 [zA 13 32 209, zI x1, zI (zar 0 x2 1), zI (zar 0 x3 1), zI x4, zI x5, v6] [] σ else none else none :=
  (zunr_eq w zc_X12_skinOf [4, 11] (d + 1) 259 rfl 104 _ _ _ _).symm
set_option maxRecDepth 100000 in
theorem eX12_piece (w : zW) (d : Nat) (x1 x2 : Int) (σ : zMem) : zcall w (d + 1) 260 [zA 13 32 209, zI x1, zI x2] σ =
  if (0 : Int) ≤ x2 ∧ x2 < 4096 then zden w (d + 1) 260 14 [zA 13 32 209, zI x1, zI x2, zI 1, zI 0, zU, zU] [] (zup (zup σ 220 0 x2) 219 x2 1) else none :=
  (zcall_eq rfl).trans (zunr_eq w zc_X12_piece [14, 19] (d + 1) 260 rfl 110 _ _ _ _).symm
set_option maxRecDepth 100000 in
theorem hX12_piece_14 (w : zW) (d : Nat) (x1 x3 x4 : Int) (v2 v5 v6 : zV) (σ : zMem) : zden w (d + 1) 260 14 [zA 13 32 209, zI x1, v2, zI x3, zI x4, v5, v6] [] σ =
  if x4 < x3 then zden w (d + 1) 260 19 [zA 13 32 209, zI x1, v2, zI x3, zI x4, zI 0, v6] [] σ else some (x3, σ) :=
  (zunr_eq w zc_X12_piece [14, 19] (d + 1) 260 rfl 110 _ _ _ _).symm
set_option maxRecDepth 100000 in
theorem hX12_piece_19 (w : zW) (d : Nat) (x1 x3 x4 x5 : Int) (v2 v6 : zV) (σ : zMem) : zden w (d + 1) 260 19 [zA 13 32 209, zI x1, v2, zI x3, zI x4, zI x5, v6] [] σ =
  if x5 < 6 then if (0 : Int) ≤ x4 ∧ x4 < 4096 then (zcall w d 258 [zI (σ 220 x4), zI x5] σ).bind fun r1 => if r1.1 < 0 then zden w (d + 1) 260 19 [zA 13 32 209, zI x1, v2, zI x3, zI x4, zI (zar 0 x5 1), zI r1.1] [] r1.2 else if (0 : Int) ≤ x1 ∧ x1 < 4 then if (0 : Int) ≤ r1.1 ∧ r1.1 < 4096 then if (r1.2 (zR w 214 x1) r1.1) = 0 then zden w (d + 1) 260 19 [zA 13 32 209, zI x1, v2, zI x3, zI x4, zI (zar 0 x5 1), zI r1.1] [] r1.2 else if (0 : Int) ≤ r1.1 ∧ r1.1 < 4096 then if (r1.2 219 r1.1) = 0 then if (0 : Int) ≤ r1.1 ∧ r1.1 < 4096 then if (0 : Int) ≤ x3 ∧ x3 < 4096 then zden w (d + 1) 260 19 [zA 13 32 209, zI x1, (zlng 0 v2), zI (zar 0 x3 1), zI x4, zI (zar 0 x5 1), zI r1.1] [] (zup (zup r1.2 219 r1.1 1) 220 x3 r1.1) else none else none else zden w (d + 1) 260 19 [zA 13 32 209, zI x1, v2, zI x3, zI x4, zI (zar 0 x5 1), zI r1.1] [] r1.2 else none else none else none else none else zden w (d + 1) 260 14 [zA 13 32 209, zI x1, v2, zI x3, zI (zar 0 x4 1), zI x5, v6] [] σ :=
  (zunr_eq w zc_X12_piece [14, 19] (d + 1) 260 rfl 110 _ _ _ _).symm
set_option maxRecDepth 100000 in
theorem eX12_piecesOf (w : zW) (d : Nat) (x1 x2 : Int) (σ : zMem) : zcall w (d + 1) 261 [zA 13 32 209, zI x1, zI x2] σ =
  zden w (d + 1) 261 8 [zA 13 32 209, zI x1, zI x2, zI 0, zI 0, zI (-1), zI 0, zU] [] σ :=
  (zcall_eq rfl).trans (zunr_eq w zc_X12_piecesOf [8, 20] (d + 1) 261 rfl 115 _ _ _ _).symm
set_option maxRecDepth 100000 in
theorem hX12_piecesOf_8 (w : zW) (d : Nat) (x1 x2 x3 x4 x5 x6 : Int) (σ : zMem) : zden w (d + 1) 261 8 [zA 13 32 209, zI x1, zI x2, zI x3, zI x4, zI x5, zI x6, zU] [] σ =
  if x6 < 4096 then if (0 : Int) ≤ x6 ∧ x6 < 4096 then zden w (d + 1) 261 8 [zA 13 32 209, zI x1, zI x2, zI x3, zI x4, zI x5, zI (zar 0 x6 1), zU] [] (zup σ 219 x6 0) else none else zden w (d + 1) 261 20 [zA 13 32 209, zI x1, zI x2, zI x3, zI x4, zI x5, zI 0, zU] [] σ :=
  (zunr_eq w zc_X12_piecesOf [8, 20] (d + 1) 261 rfl 115 _ _ _ _).symm
set_option maxRecDepth 100000 in
theorem hX12_piecesOf_20 (w : zW) (d : Nat) (x1 x2 x3 x4 x5 x6 : Int) (v7 : zV) (σ : zMem) : zden w (d + 1) 261 20 [zA 13 32 209, zI x1, zI x2, zI x3, zI x4, zI x5, zI x6, v7] [] σ =
  if x6 < 4096 then if (0 : Int) ≤ x1 ∧ x1 < 4 then if (0 : Int) ≤ x6 ∧ x6 < 4096 then if (σ (zR w 214 x1) x6) = 0 then zden w (d + 1) 261 20 [zA 13 32 209, zI x1, zI x2, zI x3, zI x4, zI x5, zI (zar 0 x6 1), v7] [] σ else if (0 : Int) ≤ x6 ∧ x6 < 4096 then if (σ 219 x6) = 0 then (zcall w d 260 [zA 13 32 209, zI x1, zI x6] σ).bind fun r1 => if x4 < r1.1 then (zcall w d 341 [zI x4, zI r1.1] r1.2).bind fun r2 => zden w (d + 1) 261 20 [zA 13 32 209, zI x1, zI x2, zI (zar 0 x3 1), zI r2.1, zI x6, zI (zar 0 x6 1), zI r1.1] [] r2.2 else (zcall w d 341 [zI x4, zI r1.1] r1.2).bind fun r3 => zden w (d + 1) 261 20 [zA 13 32 209, zI x1, zI x2, zI (zar 0 x3 1), zI r3.1, zI x5, zI (zar 0 x6 1), zI r1.1] [] r3.2 else zden w (d + 1) 261 20 [zA 13 32 209, zI x1, zI x2, zI x3, zI x4, zI x5, zI (zar 0 x6 1), v7] [] σ else none else none else none else if x2 = 0 then some (x3, σ) else if x2 = 1 then some (x4, σ) else some (x5, σ) :=
  (zunr_eq w zc_X12_piecesOf [8, 20] (d + 1) 261 rfl 115 _ _ _ _).symm
set_option maxRecDepth 100000 in
theorem eX12_skin (w : zW) (d : Nat) (x1 : Int) (σ : zMem) : zcall w (d + 1) 262 [zA 13 32 209, zI x1] σ =
  (zcall w d 218 [zA 13 32 209, zI x1] σ).bind fun r1 => if r1.1 = 0 then (zcall w d 214 [zA 13 32 209, zI (-62)] r1.2).bind fun r2 => some (r2.1, r2.2) else (zcall w d 249 [zA 13 32 209, zI 0, zI x1] r1.2).bind fun r3 => (zcall w d 259 [zA 13 32 209, zI 0] r3.2).bind fun r4 => some (r4.1, r4.2) :=
  (zcall_eq rfl).trans (zunr_eq w zc_X12_skin [] (d + 1) 262 rfl 67 _ _ _ _).symm
set_option maxRecDepth 100000 in
theorem eX12_pieces (w : zW) (d : Nat) (x1 x2 : Int) (σ : zMem) : zcall w (d + 1) 263 [zA 13 32 209, zI x1, zI x2] σ =
  (zcall w d 218 [zA 13 32 209, zI x1] σ).bind fun r1 => if r1.1 = 0 then (zcall w d 214 [zA 13 32 209, zI (-62)] r1.2).bind fun r2 => some (r2.1, r2.2) else (zcall w d 213 [zJ x2, zJ 0, zJ 2] r1.2).bind fun r3 => if r3.1 = 0 then (zcall w d 214 [zA 13 32 209, zI (-62)] r3.2).bind fun r4 => some (r4.1, r4.2) else (zcall w d 249 [zA 13 32 209, zI 0, zI x1] r3.2).bind fun r5 => (zcall w d 261 [zA 13 32 209, zI 0, zI x2] r5.2).bind fun r6 => some (r6.1, r6.2) :=
  (zcall_eq rfl).trans (zunr_eq w zc_X12_pieces [] (d + 1) 263 rfl 74 _ _ _ _).symm
set_option maxRecDepth 100000 in
theorem eX12_fillsBoth (w : zW) (d : Nat) (x1 x2 : Int) (σ : zMem) : zcall w (d + 1) 264 [zA 13 32 209, zI x1, zI x2] σ =
  (zcall w d 249 [zA 13 32 209, zI 0, zI x1] σ).bind fun r1 => (zcall w d 249 [zA 13 32 209, zI 1, zI x2] r1.2).bind fun r2 => zden w (d + 1) 264 14 [zA 13 32 209, zI x1, zI x2, zI r1.1, zI r2.1, zI 0, zI 0] [] r2.2 :=
  (zcall_eq rfl).trans (zunr_eq w zc_X12_fillsBoth [14] (d + 1) 264 rfl 91 _ _ _ _).symm
set_option maxRecDepth 100000 in
theorem hX12_fillsBoth_14 (w : zW) (d : Nat) (x5 x6 : Int) (v1 v2 v3 v4 : zV) (σ : zMem) : zden w (d + 1) 264 14 [zA 13 32 209, v1, v2, v3, v4, zI x5, zI x6] [] σ =
  if x6 < 4096 then if (0 : Int) ≤ x6 ∧ x6 < 4096 then if (σ 215 x6) = 0 then zden w (d + 1) 264 14 [zA 13 32 209, v1, v2, v3, (zlng 0 v4), zI (zar 0 x5 0), zI (zar 0 x6 1)] [] σ else if (0 : Int) ≤ x6 ∧ x6 < 4096 then if (σ 216 x6) = 0 then zden w (d + 1) 264 14 [zA 13 32 209, v1, v2, v3, (zlng 0 v4), zI (zar 0 x5 0), zI (zar 0 x6 1)] [] σ else zden w (d + 1) 264 14 [zA 13 32 209, v1, v2, v3, (zlng 0 v4), zI (zar 0 x5 1), zI (zar 0 x6 1)] [] σ else none else none else some (x5, σ) :=
  (zunr_eq w zc_X12_fillsBoth [14] (d + 1) 264 rfl 91 _ _ _ _).symm
set_option maxRecDepth 100000 in
theorem eX12_both (w : zW) (d : Nat) (x1 x2 : Int) (σ : zMem) : zcall w (d + 1) 265 [zA 13 32 209, zI x1, zI x2] σ =
  (zcall w d 218 [zA 13 32 209, zI x1] σ).bind fun r1 => if r1.1 = 0 then (zcall w d 214 [zA 13 32 209, zI (-62)] r1.2).bind fun r2 => some (r2.1, r2.2) else (zcall w d 218 [zA 13 32 209, zI x2] r1.2).bind fun r3 => if r3.1 = 0 then (zcall w d 214 [zA 13 32 209, zI (-62)] r3.2).bind fun r4 => some (r4.1, r4.2) else (zcall w d 264 [zA 13 32 209, zI x1, zI x2] r3.2).bind fun r5 => some (r5.1, r5.2) :=
  (zcall_eq rfl).trans (zunr_eq w zc_X12_both [] (d + 1) 265 rfl 67 _ _ _ _).symm
set_option maxRecDepth 100000 in
theorem eX12_differ (w : zW) (d : Nat) (x1 x2 : Int) (σ : zMem) : zcall w (d + 1) 266 [zA 13 32 209, zI x1, zI x2] σ =
  (zcall w d 218 [zA 13 32 209, zI x1] σ).bind fun r1 => if r1.1 = 0 then (zcall w d 214 [zA 13 32 209, zI (-62)] r1.2).bind fun r2 => some (r2.1, r2.2) else (zcall w d 218 [zA 13 32 209, zI x2] r1.2).bind fun r3 => if r3.1 = 0 then (zcall w d 214 [zA 13 32 209, zI (-62)] r3.2).bind fun r4 => some (r4.1, r4.2) else zden w (d + 1) 266 14 [zA 13 32 209, zI x1, zI x2, zI 0] [] r3.2 :=
  (zcall_eq rfl).trans (zunr_eq w zc_X12_differ [14] (d + 1) 266 rfl 82 _ _ _ _).symm
set_option maxRecDepth 100000 in
theorem hX12_differ_14 (w : zW) (d : Nat) (x1 x2 x3 : Int) (σ : zMem) : zden w (d + 1) 266 14 [zA 13 32 209, zI x1, zI x2, zI x3] [] σ =
  if x3 < 4096 then (zcall w d 248 [zA 13 32 209, zI x1, zI x3] σ).bind fun r1 => (zcall w d 248 [zA 13 32 209, zI x2, zI x3] r1.2).bind fun r2 => if r1.1 = r2.1 then zden w (d + 1) 266 14 [zA 13 32 209, zI x1, zI x2, zI (zar 0 x3 1)] [] r2.2 else some (x3, r2.2) else some (-1, σ) :=
  (zunr_eq w zc_X12_differ [14] (d + 1) 266 rfl 82 _ _ _ _).symm
set_option maxRecDepth 100000 in
theorem eX12_turned (w : zW) (d : Nat) (x1 x2 : Int) (σ : zMem) : zcall w (d + 1) 267 [zI x1, zI x2] σ =
  if x2 = 0 then (zcall w d 254 [zI x1, zI x2] σ).bind fun r1 => some (zar 0 x1 (zar 2 256 (zar 1 15 (zar 2 2 r1.1))), r1.2) else if x2 = 1 then (zcall w d 254 [zI x1, zI x2] σ).bind fun r2 => some (zar 0 x1 (zar 2 16 (zar 1 15 (zar 2 2 r2.1))), r2.2) else (zcall w d 254 [zI x1, zI x2] σ).bind fun r3 => some (zar 0 x1 (zar 2 1 (zar 1 15 (zar 2 2 r3.1))), r3.2) :=
  (zcall_eq rfl).trans (zunr_eq w zc_X12_turned [] (d + 1) 267 rfl 73 _ _ _ _).symm
set_option maxRecDepth 100000 in
theorem eX12_even (w : zW) (d : Nat) (x1 x2 : Int) (σ : zMem) : zcall w (d + 1) 268 [zA 13 32 209, zI x1, zI x2] σ =
  (zcall w d 218 [zA 13 32 209, zI x1] σ).bind fun r1 => if r1.1 = 0 then (zcall w d 214 [zA 13 32 209, zI (-62)] r1.2).bind fun r2 => some (r2.1, r2.2) else (zcall w d 213 [zJ x2, zJ 0, zJ 2] r1.2).bind fun r3 => if r3.1 = 0 then (zcall w d 214 [zA 13 32 209, zI (-62)] r3.2).bind fun r4 => some (r4.1, r4.2) else (zcall w d 249 [zA 13 32 209, zI 0, zI x1] r3.2).bind fun r5 => zden w (d + 1) 268 21 [zA 13 32 209, zI x1, zI x2, zI r5.1, zI 0] [] r5.2 :=
  (zcall_eq rfl).trans (zunr_eq w zc_X12_even [21] (d + 1) 268 rfl 95 _ _ _ _).symm
set_option maxRecDepth 100000 in
theorem hX12_even_21 (w : zW) (d : Nat) (x2 x4 : Int) (v1 v3 : zV) (σ : zMem) : zden w (d + 1) 268 21 [zA 13 32 209, v1, zI x2, v3, zI x4] [] σ =
  if x4 < 4096 then if (0 : Int) ≤ x4 ∧ x4 < 4096 then (zcall w d 267 [zI x4, zI x2] σ).bind fun r1 => if (0 : Int) ≤ r1.1 ∧ r1.1 < 4096 then if (σ 215 x4) = (r1.2 215 r1.1) then zden w (d + 1) 268 21 [zA 13 32 209, v1, zI x2, (zlng 0 v3), zI (zar 0 x4 1)] [] r1.2 else some (0, r1.2) else none else none else some (1, σ) :=
  (zunr_eq w zc_X12_even [21] (d + 1) 268 rfl 95 _ _ _ _).symm
set_option maxRecDepth 100000 in
theorem eX12_meets (w : zW) (d : Nat) (x1 x2 : Int) (σ : zMem) : zcall w (d + 1) 269 [zA 13 32 209, zI x1, zI x2] σ =
  if x1 = 0 then zden w (d + 1) 269 13 [zA 13 32 209, zI x1, zI x2, zI 256, zI 0] [] σ else if x1 = 1 then zden w (d + 1) 269 13 [zA 13 32 209, zI x1, zI x2, zI 16, zI 0] [] σ else zden w (d + 1) 269 13 [zA 13 32 209, zI x1, zI x2, zI 1, zI 0] [] σ :=
  (zcall_eq rfl).trans (zunr_eq w zc_X12_meets [13] (d + 1) 269 rfl 97 _ _ _ _).symm
set_option maxRecDepth 100000 in
theorem hX12_meets_13 (w : zW) (d : Nat) (x1 x2 x3 x4 : Int) (σ : zMem) : zden w (d + 1) 269 13 [zA 13 32 209, zI x1, zI x2, zI x3, zI x4] [] σ =
  if x4 < 4096 then if (0 : Int) ≤ x4 ∧ x4 < 4096 then if (σ 215 x4) = 0 then zden w (d + 1) 269 13 [zA 13 32 209, zI x1, zI x2, zI x3, zI (zar 0 x4 1)] [] σ else (zcall w d 254 [zI x4, zI x1] σ).bind fun r1 => if 15 < (zar 0 r1.1 x2) then zden w (d + 1) 269 13 [zA 13 32 209, zI x1, zI x2, zI x3, zI (zar 0 x4 1)] [] r1.2 else if (0 : Int) ≤ (zar 0 x4 (zar 2 x2 x3)) ∧ (zar 0 x4 (zar 2 x2 x3)) < 4096 then if (r1.2 216 (zar 0 x4 (zar 2 x2 x3))) = 0 then zden w (d + 1) 269 13 [zA 13 32 209, zI x1, zI x2, zI x3, zI (zar 0 x4 1)] [] r1.2 else some (1, r1.2) else none else none else some (0, σ) :=
  (zunr_eq w zc_X12_meets [13] (d + 1) 269 rfl 97 _ _ _ _).symm
set_option maxRecDepth 100000 in
theorem eX12_apart (w : zW) (d : Nat) (x1 x2 x3 : Int) (σ : zMem) : zcall w (d + 1) 270 [zA 13 32 209, zI x1, zI x2, zI x3] σ =
  (zcall w d 218 [zA 13 32 209, zI x1] σ).bind fun r1 => if r1.1 = 0 then (zcall w d 214 [zA 13 32 209, zI (-62)] r1.2).bind fun r2 => some (r2.1, r2.2) else (zcall w d 218 [zA 13 32 209, zI x2] r1.2).bind fun r3 => if r3.1 = 0 then (zcall w d 214 [zA 13 32 209, zI (-62)] r3.2).bind fun r4 => some (r4.1, r4.2) else (zcall w d 213 [zJ x3, zJ 0, zJ 2] r3.2).bind fun r5 => if r5.1 = 0 then (zcall w d 214 [zA 13 32 209, zI (-62)] r5.2).bind fun r6 => some (r6.1, r6.2) else (zcall w d 264 [zA 13 32 209, zI x1, zI x2] r5.2).bind fun r7 => zden w (d + 1) 270 25 [zA 13 32 209, zI x1, zI x2, zI x3, zI r7.1, zI 0] [] r7.2 :=
  (zcall_eq rfl).trans (zunr_eq w zc_X12_apart [25] (d + 1) 270 rfl 87 _ _ _ _).symm
set_option maxRecDepth 100000 in
theorem hX12_apart_25 (w : zW) (d : Nat) (x3 x5 : Int) (v1 v2 v4 : zV) (σ : zMem) : zden w (d + 1) 270 25 [zA 13 32 209, v1, v2, zI x3, v4, zI x5] [] σ =
  if x5 < 16 then (zcall w d 269 [zA 13 32 209, zI x3, zI x5] σ).bind fun r1 => if r1.1 = 0 then some (x5, r1.2) else zden w (d + 1) 270 25 [zA 13 32 209, v1, v2, zI x3, (zlng 0 v4), zI (zar 0 x5 1)] [] r1.2 else some (x5, σ) :=
  (zunr_eq w zc_X12_apart [25] (d + 1) 270 rfl 87 _ _ _ _).symm
set_option maxRecDepth 100000 in
theorem eX12_blendsOver (w : zW) (d : Nat) (x1 x2 : Int) (σ : zMem) : zcall w (d + 1) 271 [zA 13 32 209, zI x1, zI x2] σ =
  (zcall w d 216 [zA 13 32 209, zI x1, zI 4] σ).bind fun r1 => (zcall w d 216 [zA 13 32 209, zI x2, zI 4] r1.2).bind fun r2 => (zcall w d 341 [zI r1.1, zI r2.1] r2.2).bind fun r3 => some (zar 0 1 r3.1, r3.2) :=
  (zcall_eq rfl).trans (zunr_eq w zc_X12_blendsOver [] (d + 1) 271 rfl 62 _ _ _ _).symm
set_option maxRecDepth 100000 in
theorem eX12_deepOver (w : zW) (d : Nat) (x1 x2 : Int) (σ : zMem) : zcall w (d + 1) 272 [zA 13 32 209, zI x1, zI x2] σ =
  (zcall w d 216 [zA 13 32 209, zI x1, zI 3] σ).bind fun r1 => (zcall w d 216 [zA 13 32 209, zI x2, zI 3] r1.2).bind fun r2 => (zcall w d 341 [zI r1.1, zI r2.1] r2.2).bind fun r3 => some (zar 0 1 r3.1, r3.2) :=
  (zcall_eq rfl).trans (zunr_eq w zc_X12_deepOver [] (d + 1) 272 rfl 62 _ _ _ _).symm
set_option maxRecDepth 100000 in
theorem eX12_enough (w : zW) (d : Nat) (x1 x2 x3 x4 : Int) (σ : zMem) : zcall w (d + 1) 273 [zA 13 32 209, zI x1, zI x2, zI x3, zI x4] σ =
  (zcall w d 218 [zA 13 32 209, zI x1] σ).bind fun r1 => if r1.1 = 0 then (zcall w d 214 [zA 13 32 209, zI (-62)] r1.2).bind fun r2 => some (r2.1, r2.2) else (zcall w d 218 [zA 13 32 209, zI x2] r1.2).bind fun r3 => if r3.1 = 0 then (zcall w d 214 [zA 13 32 209, zI (-62)] r3.2).bind fun r4 => some (r4.1, r4.2) else (zcall w d 213 [zJ x3, zJ 1, zJ 9] r3.2).bind fun r5 => if r5.1 = 0 then (zcall w d 214 [zA 13 32 209, zI (-62)] r5.2).bind fun r6 => some (r6.1, r6.2) else (zcall w d 213 [zJ x4, zJ 0, zJ 4096] r5.2).bind fun r7 => if r7.1 = 0 then (zcall w d 214 [zA 13 32 209, zI (-62)] r7.2).bind fun r8 => some (r8.1, r8.2) else (zcall w d 272 [zA 13 32 209, zI x1, zI x2] r7.2).bind fun r9 => if 6 < r9.1 then (zcall w d 214 [zA 13 32 209, zI (-65)] r9.2).bind fun r10 => some (r10.1, r10.2) else (zcall w d 271 [zA 13 32 209, zI x1, zI x2] r9.2).bind fun r11 => if 2 < r11.1 then (zcall w d 214 [zA 13 32 209, zI (-65)] r11.2).bind fun r12 => some (r12.1, r12.2) else zden w (d + 1) 273 42 [zA 13 32 209, zI x1, zI x2, zI x3, zI x4, zI 0, zU, zU, zU, zU, zU, zU] [] r11.2 :=
  (zcall_eq rfl).trans (zunr_eq w zc_X12_enough [42, 49] (d + 1) 273 rfl 153 _ _ _ _).symm
set_option maxRecDepth 100000 in
theorem hX12_enough_42 (w : zW) (d : Nat) (x1 x2 x3 x4 x5 : Int) (v6 v7 v8 v10 : zV) (σ : zMem) : zden w (d + 1) 273 42 [zA 13 32 209, zI x1, zI x2, zI x3, zI x4, zI x5, v6, v7, v8, zU, v10, zU] [] σ =
  if x3 < x5 then some (-1, σ) else zden w (d + 1) 273 49 [zA 13 32 209, zI x1, zI x2, zI x3, zI x4, zI x5, zI 0, zI 0, v8, zU, v10, zU] [] σ :=
  (zunr_eq w zc_X12_enough [42, 49] (d + 1) 273 rfl 153 _ _ _ _).symm
set_option maxRecDepth 100000 in
theorem hX12_enough_49 (w : zW) (d : Nat) (x1 x2 x3 x4 x5 x6 x7 : Int) (v8 v10 : zV) (σ : zMem) : zden w (d + 1) 273 49 [zA 13 32 209, zI x1, zI x2, zI x3, zI x4, zI x5, zI x6, zI x7, v8, zU, v10, zU] [] σ =
  if x7 < 4096 then (zcall w d 243 [zI x7] σ).bind fun r1 => (zcall w d 244 [zI x7] r1.2).bind fun r2 => (zcall w d 245 [zI x7] r2.2).bind fun r3 => (zcall w d 219 [zA 13 32 209, zI x1, zI r1.1, zI r2.1, zI r3.1] r3.2).bind fun r4 => (zcall w d 243 [zI x7] r4.2).bind fun r5 => (zcall w d 244 [zI x7] r5.2).bind fun r6 => (zcall w d 245 [zI x7] r6.2).bind fun r7 => (zcall w d 219 [zA 13 32 209, zI x2, zI r5.1, zI r6.1, zI r7.1] r7.2).bind fun r8 => if 0 < (zar 22 (zar 12 (zar 14 r4.1 (zar 1 x3 x5)) (zar 14 r8.1 x5)) 0) then zden w (d + 1) 273 49 [zA 13 32 209, zI x1, zI x2, zI x3, zI x4, zI x5, zI (zar 0 x6 0), zI (zar 0 x7 1), zJ r4.1, zU, zJ r8.1, zU] [] r8.2 else zden w (d + 1) 273 49 [zA 13 32 209, zI x1, zI x2, zI x3, zI x4, zI x5, zI (zar 0 x6 1), zI (zar 0 x7 1), zJ r4.1, zU, zJ r8.1, zU] [] r8.2 else if x6 < x4 then zden w (d + 1) 273 42 [zA 13 32 209, zI x1, zI x2, zI x3, zI x4, zI (zar 0 x5 1), zI x6, zI x7, v8, zU, v10, zU] [] σ else some (x5, σ) :=
  (zunr_eq w zc_X12_enough [42, 49] (d + 1) 273 rfl 153 _ _ _ _).symm
set_option maxRecDepth 100000 in
theorem eX12_isNumber (w : zW) (d : Nat) (x1 x2 x3 x4 : Int) (σ : zMem) : zcall w (d + 1) 274 [zI x1, zI x2, zI x3, zI x4] σ =
  if x1 = 3 then zden w (d + 1) 274 2 [zI x1, zI x2, zI x3, zI x4] [] σ else if x1 = 4 then zden w (d + 1) 274 17 [zI x1, zI x2, zI x3, zI x4] [] σ else if x1 = 5 then zden w (d + 1) 274 29 [zI x1, zI x2, zI x3, zI x4] [] σ else if x1 = 6 then zden w (d + 1) 274 108 [zI x1, zI x2, zI x3, zI x4] [] σ else if x1 = 7 then zden w (d + 1) 274 108 [zI x1, zI x2, zI x3, zI x4] [] σ else if x1 = 8 then zden w (d + 1) 274 108 [zI x1, zI x2, zI x3, zI x4] [] σ else if x1 = 9 then zden w (d + 1) 274 108 [zI x1, zI x2, zI x3, zI x4] [] σ else if x1 = 10 then zden w (d + 1) 274 108 [zI x1, zI x2, zI x3, zI x4] [] σ else if x1 = 11 then zden w (d + 1) 274 44 [zI x1, zI x2, zI x3, zI x4] [] σ else if x1 = 12 then zden w (d + 1) 274 59 [zI x1, zI x2, zI x3, zI x4] [] σ else if x1 = 13 then zden w (d + 1) 274 65 [zI x1, zI x2, zI x3, zI x4] [] σ else if x1 = 14 then zden w (d + 1) 274 79 [zI x1, zI x2, zI x3, zI x4] [] σ else if x1 = 15 then zden w (d + 1) 274 93 [zI x1, zI x2, zI x3, zI x4] [] σ else zden w (d + 1) 274 108 [zI x1, zI x2, zI x3, zI x4] [] σ :=
  (zcall_eq rfl).trans (zunr_eq w zc_X12_isNumber [2, 17, 29, 44, 59, 65, 79, 93, 108] (d + 1) 274 rfl 178 _ _ _ _).symm
set_option maxRecDepth 100000 in
theorem hX12_isNumber_2 (w : zW) (d : Nat) (x2 x3 : Int) (v0 v3 : zV) (σ : zMem) : zden w (d + 1) 274 2 [v0, zI x2, zI x3, v3] [] σ =
  if x2 = 3 then (zcall w d 213 [zJ x3, zJ 0, zJ 40] σ).bind fun r1 => if 0 ≤ r1.1 ∧ r1.1 ≤ 1 then some (r1.1, r1.2) else none else (zcall w d 213 [zJ x3, zJ (-40), zJ 55] σ).bind fun r2 => if 0 ≤ r2.1 ∧ r2.1 ≤ 1 then some (r2.1, r2.2) else none :=
  (zunr_eq w zc_X12_isNumber [2, 17, 29, 44, 59, 65, 79, 93, 108] (d + 1) 274 rfl 178 _ _ _ _).symm
set_option maxRecDepth 100000 in
theorem hX12_isNumber_17 (w : zW) (d : Nat) (x2 x3 x4 : Int) (v0 : zV) (σ : zMem) : zden w (d + 1) 274 17 [v0, zI x2, zI x3, zI x4] [] σ =
  if x2 < 3 then (zcall w d 213 [zJ x3, zJ (-40), zJ 55] σ).bind fun r1 => if 0 ≤ r1.1 ∧ r1.1 ≤ 1 then some (r1.1, r1.2) else none else (zcall w d 213 [zJ x3, zJ x4, zJ 55] σ).bind fun r2 => if 0 ≤ r2.1 ∧ r2.1 ≤ 1 then some (r2.1, r2.2) else none :=
  (zunr_eq w zc_X12_isNumber [2, 17, 29, 44, 59, 65, 79, 93, 108] (d + 1) 274 rfl 178 _ _ _ _).symm
set_option maxRecDepth 100000 in
theorem hX12_isNumber_29 (w : zW) (d : Nat) (x2 x3 : Int) (v0 v3 : zV) (σ : zMem) : zden w (d + 1) 274 29 [v0, zI x2, zI x3, v3] [] σ =
  if x2 = 3 then (zcall w d 213 [zJ x3, zJ (-999), zJ 999] σ).bind fun r1 => if 0 ≤ r1.1 ∧ r1.1 ≤ 1 then some (r1.1, r1.2) else none else (zcall w d 213 [zJ x3, zJ (-9), zJ 9] σ).bind fun r2 => if 0 ≤ r2.1 ∧ r2.1 ≤ 1 then some (r2.1, r2.2) else none :=
  (zunr_eq w zc_X12_isNumber [2, 17, 29, 44, 59, 65, 79, 93, 108] (d + 1) 274 rfl 178 _ _ _ _).symm
set_option maxRecDepth 100000 in
theorem hX12_isNumber_44 (w : zW) (d : Nat) (x2 x3 x4 : Int) (v0 : zV) (σ : zMem) : zden w (d + 1) 274 44 [v0, zI x2, zI x3, zI x4] [] σ =
  if x2 = 0 then (zcall w d 213 [zJ x3, zJ 1, zJ 9] σ).bind fun r1 => if 0 ≤ r1.1 ∧ r1.1 ≤ 1 then some (r1.1, r1.2) else none else (zcall w d 213 [zJ x3, zJ 0, zJ x4] σ).bind fun r2 => if 0 ≤ r2.1 ∧ r2.1 ≤ 1 then some (r2.1, r2.2) else none :=
  (zunr_eq w zc_X12_isNumber [2, 17, 29, 44, 59, 65, 79, 93, 108] (d + 1) 274 rfl 178 _ _ _ _).symm
set_option maxRecDepth 100000 in
theorem hX12_isNumber_59 (w : zW) (d : Nat) (x3 : Int) (v0 v1 v3 : zV) (σ : zMem) : zden w (d + 1) 274 59 [v0, v1, zI x3, v3] [] σ =
  (zcall w d 213 [zJ x3, zJ (-40), zJ 55] σ).bind fun r1 => if 0 ≤ r1.1 ∧ r1.1 ≤ 1 then some (r1.1, r1.2) else none :=
  (zunr_eq w zc_X12_isNumber [2, 17, 29, 44, 59, 65, 79, 93, 108] (d + 1) 274 rfl 178 _ _ _ _).symm
set_option maxRecDepth 100000 in
theorem hX12_isNumber_65 (w : zW) (d : Nat) (x2 x3 : Int) (v0 v3 : zV) (σ : zMem) : zden w (d + 1) 274 65 [v0, zI x2, zI x3, v3] [] σ =
  if x2 = 0 then (zcall w d 213 [zJ x3, zJ 0, zJ 2] σ).bind fun r1 => if 0 ≤ r1.1 ∧ r1.1 ≤ 1 then some (r1.1, r1.2) else none else (zcall w d 213 [zJ x3, zJ 1, zJ 16] σ).bind fun r2 => if 0 ≤ r2.1 ∧ r2.1 ≤ 1 then some (r2.1, r2.2) else none :=
  (zunr_eq w zc_X12_isNumber [2, 17, 29, 44, 59, 65, 79, 93, 108] (d + 1) 274 rfl 178 _ _ _ _).symm
set_option maxRecDepth 100000 in
theorem hX12_isNumber_79 (w : zW) (d : Nat) (x2 x3 : Int) (v0 v3 : zV) (σ : zMem) : zden w (d + 1) 274 79 [v0, zI x2, zI x3, v3] [] σ =
  if x2 = 0 then (zcall w d 213 [zJ x3, zJ 0, zJ 2] σ).bind fun r1 => if 0 ≤ r1.1 ∧ r1.1 ≤ 1 then some (r1.1, r1.2) else none else (zcall w d 213 [zJ x3, zJ 0, zJ 15] σ).bind fun r2 => if 0 ≤ r2.1 ∧ r2.1 ≤ 1 then some (r2.1, r2.2) else none :=
  (zunr_eq w zc_X12_isNumber [2, 17, 29, 44, 59, 65, 79, 93, 108] (d + 1) 274 rfl 178 _ _ _ _).symm
set_option maxRecDepth 100000 in
theorem hX12_isNumber_93 (w : zW) (d : Nat) (x2 x3 x4 : Int) (v0 : zV) (σ : zMem) : zden w (d + 1) 274 93 [v0, zI x2, zI x3, zI x4] [] σ =
  (zcall w d 213 [zJ x3, zJ 0, zJ 2] σ).bind fun r1 => if r1.1 = 0 then some (0, r1.2) else if x2 = 0 then some (1, r1.2) else if x3 = x4 then some (0, r1.2) else some (1, r1.2) :=
  (zunr_eq w zc_X12_isNumber [2, 17, 29, 44, 59, 65, 79, 93, 108] (d + 1) 274 rfl 178 _ _ _ _).symm
set_option maxRecDepth 100000 in
theorem hX12_isNumber_108 (w : zW) (d : Nat) (x1 x2 x3 : Int) (v3 : zV) (σ : zMem) : zden w (d + 1) 274 108 [zI x1, zI x2, zI x3, v3] [] σ =
  if x2 = 1 then (zcall w d 213 [zJ x3, zJ 1, zJ 9] σ).bind fun r1 => if 0 ≤ r1.1 ∧ r1.1 ≤ 1 then some (r1.1, r1.2) else none else if x1 = 16 then (zcall w d 213 [zJ x3, zJ (-99), zJ 99] σ).bind fun r2 => if 0 ≤ r2.1 ∧ r2.1 ≤ 1 then some (r2.1, r2.2) else none else (zcall w d 213 [zJ x3, zJ 0, zJ 99] σ).bind fun r3 => if 0 ≤ r3.1 ∧ r3.1 ≤ 1 then some (r3.1, r3.2) else none :=
  (zunr_eq w zc_X12_isNumber [2, 17, 29, 44, 59, 65, 79, 93, 108] (d + 1) 274 rfl 178 _ _ _ _).symm
set_option maxRecDepth 100000 in
theorem eX12_aheadOf (w : zW) (d : Nat) (n1 a1 x2 x3 : Int) (σ : zMem) : zcall w d 275 [zA 20 n1 a1, zI x2, zI x3] σ =
  if x2 = 4 then if x3 < 3 then if (0 : Int) ≤ 0 ∧ 0 < n1 then some (σ a1 0, σ) else none else if (0 : Int) ≤ (zar 1 x3 3) ∧ (zar 1 x3 3) < n1 then some (σ a1 (zar 1 x3 3), σ) else none else if (0 : Int) ≤ 0 ∧ 0 < n1 then some (σ a1 0, σ) else none :=
  (zcall_eq rfl).trans (zunr_eq w zc_X12_aheadOf [] d 275 rfl 66 _ _ _ _).symm
set_option maxRecDepth 100000 in
theorem eX12_numbersOf (w : zW) (d : Nat) (x1 : Int) (σ : zMem) : zcall w d 276 [zI x1] σ =
  if x1 = 3 then some (4, σ) else if x1 = 5 then some (4, σ) else if x1 = 4 then some (6, σ) else if x1 = 12 then some (3, σ) else if x1 < 11 then some (0, σ) else some (2, σ) :=
  (zcall_eq rfl).trans (zunr_eq w zc_X12_numbersOf [] d 276 rfl 75 _ _ _ _).symm
set_option maxRecDepth 100000 in
theorem eX12_areNumbers (w : zW) (d : Nat) (x1 : Int) (σ : zMem) : zcall w (d + 1) 277 [zA 13 32 209, zI x1] σ =
  zden w (d + 1) 277 2 [zA 13 32 209, zI x1, zI 0] [] σ :=
  (zcall_eq rfl).trans (zunr_eq w zc_X12_areNumbers [2] (d + 1) 277 rfl 75 _ _ _ _).symm
set_option maxRecDepth 100000 in
theorem hX12_areNumbers_2 (w : zW) (d : Nat) (x1 x2 : Int) (σ : zMem) : zden w (d + 1) 277 2 [zA 13 32 209, zI x1, zI x2] [] σ =
  (zcall w d 276 [zI x1] σ).bind fun r1 => if x2 < r1.1 then if (0 : Int) ≤ x2 ∧ x2 < 6 then (zcall w d 275 [zA 20 6 221, zI x1, zI x2] r1.2).bind fun r2 => (zcall w d 274 [zI x1, zI x2, zI (r1.2 221 x2), zI r2.1] r2.2).bind fun r3 => if r3.1 = 0 then some (0, r3.2) else zden w (d + 1) 277 2 [zA 13 32 209, zI x1, zI (zar 0 x2 1)] [] r3.2 else none else some (1, r1.2) :=
  (zunr_eq w zc_X12_areNumbers [2] (d + 1) 277 rfl 75 _ _ _ _).symm
set_option maxRecDepth 100000 in
theorem eX12_deepBy (w : zW) (d : Nat) (x1 x2 x3 : Int) (σ : zMem) : zcall w (d + 1) 278 [zA 13 32 209, zI x1, zI x2, zI x3] σ =
  if 5 < x1 then (zcall w d 216 [zA 13 32 209, zI x2, zI 3] σ).bind fun r1 => if x3 < 0 then (zcall w d 341 [zI r1.1, zI 0] r1.2).bind fun r2 => some (zar 0 1 r2.1, r2.2) else (zcall w d 216 [zA 13 32 209, zI x3, zI 3] r1.2).bind fun r3 => (zcall w d 341 [zI r1.1, zI r3.1] r3.2).bind fun r4 => some (zar 0 1 r4.1, r4.2) else some (0, σ) :=
  (zcall_eq rfl).trans (zunr_eq w zc_X12_deepBy [] (d + 1) 278 rfl 71 _ _ _ _).symm
set_option maxRecDepth 100000 in
theorem eX12_blendsBy (w : zW) (d : Nat) (x1 x2 x3 : Int) (σ : zMem) : zcall w (d + 1) 279 [zA 13 32 209, zI x1, zI x2, zI x3] σ =
  if 5 < x1 then (zcall w d 216 [zA 13 32 209, zI x2, zI 4] σ).bind fun r1 => if x3 < 0 then (zcall w d 341 [zI r1.1, zI 0] r1.2).bind fun r2 => if x1 = 11 then some (zar 0 r2.1 1, r2.2) else some (zar 0 r2.1 0, r2.2) else (zcall w d 216 [zA 13 32 209, zI x3, zI 4] r1.2).bind fun r3 => (zcall w d 341 [zI r1.1, zI r3.1] r3.2).bind fun r4 => if x1 = 11 then some (zar 0 r4.1 1, r4.2) else some (zar 0 r4.1 0, r4.2) else if x1 = 11 then some (zar 0 0 1, σ) else some (zar 0 0 0, σ) :=
  (zcall_eq rfl).trans (zunr_eq w zc_X12_blendsBy [] (d + 1) 279 rfl 78 _ _ _ _).symm
set_option maxRecDepth 100000 in
theorem eX12_isTooDeep (w : zW) (d : Nat) (x1 x2 x3 : Int) (σ : zMem) : zcall w (d + 1) 280 [zA 13 32 209, zI x1, zI x2, zI x3] σ =
  (zcall w d 278 [zA 13 32 209, zI x1, zI x2, zI x3] σ).bind fun r1 => if 6 < r1.1 then some (1, r1.2) else (zcall w d 279 [zA 13 32 209, zI x1, zI x2, zI x3] r1.2).bind fun r2 => if 2 < r2.1 then some (1, r2.2) else some (0, r2.2) :=
  (zcall_eq rfl).trans (zunr_eq w zc_X12_isTooDeep [] (d + 1) 280 rfl 68 _ _ _ _).symm
set_option maxRecDepth 100000 in
theorem eX12_comes (w : zW) (d : Nat) (x1 x2 x3 x4 x5 n6 a6 x7 : Int) (σ : zMem) : zcall w (d + 1) 281 [zA 13 32 209, zI x1, zI x2, zI x3, zI x4, zI x5, zA 20 n6 a6, zI x7] σ =
  if (0 : Int) ≤ (zar 2 11 (σ 209 1)) ∧ (zar 2 11 (σ 209 1)) < 264 then if (0 : Int) ≤ (zar 0 (zar 2 11 (σ 209 1)) 1) ∧ (zar 0 (zar 2 11 (σ 209 1)) 1) < 264 then if (0 : Int) ≤ (zar 0 (zar 2 11 (σ 209 1)) 2) ∧ (zar 0 (zar 2 11 (σ 209 1)) 2) < 264 then if (0 : Int) ≤ (zar 0 (zar 2 11 (σ 209 1)) 3) ∧ (zar 0 (zar 2 11 (σ 209 1)) 3) < 264 then if (0 : Int) ≤ (zar 0 (zar 2 11 (σ 209 1)) 4) ∧ (zar 0 (zar 2 11 (σ 209 1)) 4) < 264 then zden w (d + 1) 281 42 [zA 13 32 209, zI x1, zI x2, zI x3, zI x4, zI x5, zA 20 n6 a6, zI x7, zI (σ 209 1), zI (zar 2 11 (σ 209 1)), zI 0] [] (zup (zup (zup (zup (zup σ 210 (zar 2 11 (σ 209 1)) x1) 210 (zar 0 (zar 2 11 (σ 209 1)) 1) x2) 210 (zar 0 (zar 2 11 (σ 209 1)) 2) x3) 210 (zar 0 (zar 2 11 (σ 209 1)) 3) x4) 210 (zar 0 (zar 2 11 (σ 209 1)) 4) x5) else none else none else none else none else none :=
  (zcall_eq rfl).trans (zunr_eq w zc_X12_comes [42] (d + 1) 281 rfl 123 _ _ _ _).symm
set_option maxRecDepth 100000 in
theorem hX12_comes_42 (w : zW) (d : Nat) (x1 n6 a6 x7 x8 x9 x10 : Int) (v2 v3 v4 v5 : zV) (σ : zMem) : zden w (d + 1) 281 42 [zA 13 32 209, zI x1, v2, v3, v4, v5, zA 20 n6 a6, zI x7, zI x8, zI x9, zI x10] [] σ =
  if x10 < 6 then (zcall w d 276 [zI x1] σ).bind fun r1 => if x10 < r1.1 then if (0 : Int) ≤ (zar 0 x7 x10) ∧ (zar 0 x7 x10) < n6 then if (0 : Int) ≤ (zar 0 (zar 0 x9 5) x10) ∧ (zar 0 (zar 0 x9 5) x10) < 264 then zden w (d + 1) 281 42 [zA 13 32 209, zI x1, v2, v3, v4, v5, zA 20 n6 a6, zI x7, zI x8, zI x9, zI (zar 0 x10 1)] [] (zup r1.2 210 (zar 0 (zar 0 x9 5) x10) (r1.2 a6 (zar 0 x7 x10))) else none else none else if (0 : Int) ≤ (zar 0 (zar 0 x9 5) x10) ∧ (zar 0 (zar 0 x9 5) x10) < 264 then zden w (d + 1) 281 42 [zA 13 32 209, zI x1, v2, v3, v4, v5, zA 20 n6 a6, zI x7, zI x8, zI x9, zI (zar 0 x10 1)] [] (zup r1.2 210 (zar 0 (zar 0 x9 5) x10) 0) else none else some (x8, zup σ 209 1 (zar 0 x8 1)) :=
  (zunr_eq w zc_X12_comes [42] (d + 1) 281 rfl 123 _ _ _ _).symm
set_option maxRecDepth 100000 in
theorem eX12_made (w : zW) (d : Nat) (x1 x2 x3 : Int) (σ : zMem) : zcall w (d + 1) 282 [zA 13 32 209, zI x1, zI x2, zI x3] σ =
  if 5 < x1 then (zcall w d 218 [zA 13 32 209, zI x2] σ).bind fun r1 => if r1.1 = 0 then (zcall w d 214 [zA 13 32 209, zI (-62)] r1.2).bind fun r2 => some (r2.1, r2.2) else if 11 < x1 then (zcall w d 277 [zA 13 32 209, zI x1] r1.2).bind fun r3 => if r3.1 = 0 then (zcall w d 214 [zA 13 32 209, zI (-62)] r3.2).bind fun r4 => some (r4.1, r4.2) else (zcall w d 280 [zA 13 32 209, zI x1, zI x2, zI x3] r3.2).bind fun r5 => if r5.1 = 0 then if (r5.2 209 1) = 24 then (zcall w d 214 [zA 13 32 209, zI (-66)] r5.2).bind fun r6 => some (r6.1, r6.2) else (zcall w d 278 [zA 13 32 209, zI x1, zI x2, zI x3] r5.2).bind fun r7 => (zcall w d 279 [zA 13 32 209, zI x1, zI x2, zI x3] r7.2).bind fun r8 => (zcall w d 281 [zA 13 32 209, zI x1, zI x2, zI x3, zI r7.1, zI r8.1, zA 20 6 221, zI 0] r8.2).bind fun r9 => some (r9.1, r9.2) else (zcall w d 214 [zA 13 32 209, zI (-65)] r5.2).bind fun r10 => some (r10.1, r10.2) else (zcall w d 218 [zA 13 32 209, zI x3] r1.2).bind fun r11 => if r11.1 = 0 then (zcall w d 214 [zA 13 32 209, zI (-62)] r11.2).bind fun r12 => some (r12.1, r12.2) else (zcall w d 277 [zA 13 32 209, zI x1] r11.2).bind fun r13 => if r13.1 = 0 then (zcall w d 214 [zA 13 32 209, zI (-62)] r13.2).bind fun r14 => some (r14.1, r14.2) else (zcall w d 280 [zA 13 32 209, zI x1, zI x2, zI x3] r13.2).bind fun r15 => if r15.1 = 0 then if (r15.2 209 1) = 24 then (zcall w d 214 [zA 13 32 209, zI (-66)] r15.2).bind fun r16 => some (r16.1, r16.2) else (zcall w d 278 [zA 13 32 209, zI x1, zI x2, zI x3] r15.2).bind fun r17 => (zcall w d 279 [zA 13 32 209, zI x1, zI x2, zI x3] r17.2).bind fun r18 => (zcall w d 281 [zA 13 32 209, zI x1, zI x2, zI x3, zI r17.1, zI r18.1, zA 20 6 221, zI 0] r18.2).bind fun r19 => some (r19.1, r19.2) else (zcall w d 214 [zA 13 32 209, zI (-65)] r15.2).bind fun r20 => some (r20.1, r20.2) else (zcall w d 277 [zA 13 32 209, zI x1] σ).bind fun r21 => if r21.1 = 0 then (zcall w d 214 [zA 13 32 209, zI (-62)] r21.2).bind fun r22 => some (r22.1, r22.2) else (zcall w d 280 [zA 13 32 209, zI x1, zI x2, zI x3] r21.2).bind fun r23 => if r23.1 = 0 then if (r23.2 209 1) = 24 then (zcall w d 214 [zA 13 32 209, zI (-66)] r23.2).bind fun r24 => some (r24.1, r24.2) else (zcall w d 278 [zA 13 32 209, zI x1, zI x2, zI x3] r23.2).bind fun r25 => (zcall w d 279 [zA 13 32 209, zI x1, zI x2, zI x3] r25.2).bind fun r26 => (zcall w d 281 [zA 13 32 209, zI x1, zI x2, zI x3, zI r25.1, zI r26.1, zA 20 6 221, zI 0] r26.2).bind fun r27 => some (r27.1, r27.2) else (zcall w d 214 [zA 13 32 209, zI (-65)] r23.2).bind fun r28 => some (r28.1, r28.2) :=
  (zcall_eq rfl).trans (zunr_eq w zc_X12_made [] (d + 1) 282 rfl 109 _ _ _ _).symm
set_option maxRecDepth 100000 in
theorem eX12_tells (w : zW) (d : Nat) (x1 x2 x3 x4 : Int) (σ : zMem) : zcall w d 283 [zA 13 32 209, zI x1, zI x2, zI x3, zI x4] σ =
  some (0, zup (zup (zup (zup σ 221 0 x1) 221 1 x2) 221 2 x3) 221 3 x4) :=
  (zcall_eq rfl).trans (zunr_eq w zc_X12_tells [] d 283 rfl 71 _ _ _ _).symm
set_option maxRecDepth 100000 in
theorem eX12_ball (w : zW) (d : Nat) (x1 x2 x3 x4 : Int) (σ : zMem) : zcall w (d + 1) 284 [zA 13 32 209, zI x1, zI x2, zI x3, zI x4] σ =
  (zcall w d 283 [zA 13 32 209, zI x1, zI x2, zI x3, zI x4] σ).bind fun r1 => (zcall w d 282 [zA 13 32 209, zI 3, zI (-1), zI (-1)] r1.2).bind fun r2 => some (r2.1, r2.2) :=
  (zcall_eq rfl).trans (zunr_eq w zc_X12_ball [] (d + 1) 284 rfl 62 _ _ _ _).symm
set_option maxRecDepth 100000 in
theorem eX12_box (w : zW) (d : Nat) (x1 x2 x3 x4 x5 x6 : Int) (σ : zMem) : zcall w (d + 1) 285 [zA 13 32 209, zI x1, zI x2, zI x3, zI x4, zI x5, zI x6] σ =
  (zcall w d 283 [zA 13 32 209, zI x1, zI x2, zI x3, zI x4] σ).bind fun r1 => (zcall w d 282 [zA 13 32 209, zI 4, zI (-1), zI (-1)] (zup (zup r1.2 221 4 x5) 221 5 x6)).bind fun r2 => some (r2.1, r2.2) :=
  (zcall_eq rfl).trans (zunr_eq w zc_X12_box [] (d + 1) 285 rfl 72 _ _ _ _).symm
set_option maxRecDepth 100000 in
theorem eX12_half (w : zW) (d : Nat) (x1 x2 x3 x4 : Int) (σ : zMem) : zcall w (d + 1) 286 [zA 13 32 209, zI x1, zI x2, zI x3, zI x4] σ =
  (zcall w d 283 [zA 13 32 209, zI x1, zI x2, zI x3, zI x4] σ).bind fun r1 => (zcall w d 282 [zA 13 32 209, zI 5, zI (-1), zI (-1)] r1.2).bind fun r2 => some (r2.1, r2.2) :=
  (zcall_eq rfl).trans (zunr_eq w zc_X12_half [] (d + 1) 286 rfl 62 _ _ _ _).symm
set_option maxRecDepth 100000 in
theorem eX12_pair (w : zW) (d : Nat) (x1 x2 x3 : Int) (σ : zMem) : zcall w (d + 1) 287 [zA 13 32 209, zI x1, zI x2, zI x3] σ =
  (zcall w d 213 [zJ x1, zJ 8, zJ 10] σ).bind fun r1 => if r1.1 = 0 then (zcall w d 214 [zA 13 32 209, zI (-62)] r1.2).bind fun r2 => some (r2.1, r2.2) else (zcall w d 282 [zA 13 32 209, zI x1, zI x2, zI x3] r1.2).bind fun r3 => some (r3.1, r3.2) :=
  (zcall_eq rfl).trans (zunr_eq w zc_X12_pair [] (d + 1) 287 rfl 66 _ _ _ _).symm
set_option maxRecDepth 100000 in
theorem eX12_blend (w : zW) (d : Nat) (x1 x2 x3 x4 : Int) (σ : zMem) : zcall w (d + 1) 288 [zA 13 32 209, zI x1, zI x2, zI x3, zI x4] σ =
  (zcall w d 283 [zA 13 32 209, zI x3, zI x4, zI 0, zI 0] σ).bind fun r1 => (zcall w d 282 [zA 13 32 209, zI 11, zI x1, zI x2] r1.2).bind fun r2 => some (r2.1, r2.2) :=
  (zcall_eq rfl).trans (zunr_eq w zc_X12_blend [] (d + 1) 288 rfl 62 _ _ _ _).symm
set_option maxRecDepth 100000 in
theorem eX12_shift (w : zW) (d : Nat) (x1 x2 x3 x4 : Int) (σ : zMem) : zcall w (d + 1) 289 [zA 13 32 209, zI x1, zI x2, zI x3, zI x4] σ =
  (zcall w d 283 [zA 13 32 209, zI x2, zI x3, zI x4, zI 0] σ).bind fun r1 => (zcall w d 282 [zA 13 32 209, zI 12, zI x1, zI (-1)] r1.2).bind fun r2 => some (r2.1, r2.2) :=
  (zcall_eq rfl).trans (zunr_eq w zc_X12_shift [] (d + 1) 289 rfl 62 _ _ _ _).symm
set_option maxRecDepth 100000 in
theorem eX12_change (w : zW) (d : Nat) (x1 x2 x3 x4 : Int) (σ : zMem) : zcall w (d + 1) 290 [zA 13 32 209, zI x1, zI x2, zI x3, zI x4] σ =
  (zcall w d 283 [zA 13 32 209, zI x3, zI x4, zI 0, zI 0] σ).bind fun r1 => (zcall w d 213 [zJ x1, zJ 13, zJ 15] r1.2).bind fun r2 => if r2.1 = 0 then (zcall w d 214 [zA 13 32 209, zI (-62)] r2.2).bind fun r3 => some (r3.1, r3.2) else (zcall w d 282 [zA 13 32 209, zI x1, zI x2, zI (-1)] r2.2).bind fun r4 => some (r4.1, r4.2) :=
  (zcall_eq rfl).trans (zunr_eq w zc_X12_change [] (d + 1) 290 rfl 72 _ _ _ _).symm
set_option maxRecDepth 100000 in
theorem eX12_grown (w : zW) (d : Nat) (x1 x2 x3 x4 : Int) (σ : zMem) : zcall w (d + 1) 291 [zA 13 32 209, zI x1, zI x2, zI x3, zI x4] σ =
  (zcall w d 283 [zA 13 32 209, zI x3, zI x4, zI 0, zI 0] σ).bind fun r1 => (zcall w d 213 [zJ x1, zJ 16, zJ 17] r1.2).bind fun r2 => if r2.1 = 0 then (zcall w d 214 [zA 13 32 209, zI (-62)] r2.2).bind fun r3 => some (r3.1, r3.2) else (zcall w d 282 [zA 13 32 209, zI x1, zI x2, zI (-1)] r2.2).bind fun r4 => some (r4.1, r4.2) :=
  (zcall_eq rfl).trans (zunr_eq w zc_X12_grown [] (d + 1) 291 rfl 72 _ _ _ _).symm
set_option maxRecDepth 100000 in
theorem eX12_looseShelves (w : zW) (d : Nat) (σ : zMem) : zcall w d 292 [zA 13 32 209] σ =
  zden w d 292 2 [zA 13 32 209, zI 0] [] σ :=
  (zcall_eq rfl).trans (zunr_eq w zc_X12_looseShelves [2] d 292 rfl 77 _ _ _ _).symm
set_option maxRecDepth 100000 in
theorem hX12_looseShelves_2 (w : zW) (d : Nat) (x1 : Int) (σ : zMem) : zden w d 292 2 [zA 13 32 209, zI x1] [] σ =
  if x1 < 8 then if (0 : Int) ≤ x1 ∧ x1 < 8 then if (σ 226 x1) < (zar 0 10 (σ 209 1)) then if (0 : Int) ≤ x1 ∧ x1 < 8 then if (0 : Int) ≤ x1 ∧ x1 < 8 then zden w d 292 2 [zA 13 32 209, zI (zar 0 x1 1)] [] (zup σ 226 x1 (σ 226 x1)) else none else none else if (0 : Int) ≤ x1 ∧ x1 < 8 then zden w d 292 2 [zA 13 32 209, zI (zar 0 x1 1)] [] (zup σ 226 x1 (-1)) else none else none else some (0, σ) :=
  (zunr_eq w zc_X12_looseShelves [2] d 292 rfl 77 _ _ _ _).symm
set_option maxRecDepth 100000 in
theorem eX12_drop (w : zW) (d : Nat) (σ : zMem) : zcall w (d + 1) 293 [zA 13 32 209] σ =
  if (σ 209 1) = 0 then (zcall w d 214 [zA 13 32 209, zI (-65)] σ).bind fun r1 => some (r1.1, r1.2) else (zcall w d 292 [zA 13 32 209] (zup σ 209 1 (zar 1 (σ 209 1) 1))).bind fun r2 => some (r2.2 209 1, r2.2) :=
  (zcall_eq rfl).trans (zunr_eq w zc_X12_drop [] (d + 1) 293 rfl 68 _ _ _ _).symm
set_option maxRecDepth 100000 in
theorem eX12_solids (w : zW) (d : Nat) (x1 : Int) (σ : zMem) : zcall w (d + 1) 294 [zA 13 32 209, zI x1] σ =
  (zcall w d 216 [zA 13 32 209, zI x1, zI 0] σ).bind fun r1 => if 5 < r1.1 then (zcall w d 216 [zA 13 32 209, zI x1, zI 1] r1.2).bind fun r2 => (zcall w d 294 [zA 13 32 209, zI r2.1] r2.2).bind fun r3 => (zcall w d 216 [zA 13 32 209, zI x1, zI 2] r3.2).bind fun r4 => if r4.1 < 0 then some (zar 0 r3.1 0, r4.2) else (zcall w d 216 [zA 13 32 209, zI x1, zI 2] r4.2).bind fun r5 => (zcall w d 294 [zA 13 32 209, zI r5.1] r5.2).bind fun r6 => some (zar 0 r3.1 r6.1, r6.2) else some (1, r1.2) :=
  (zcall_eq rfl).trans (zunr_eq w zc_X12_solids [] (d + 1) 294 rfl 79 _ _ _ _).symm
set_option maxRecDepth 100000 in
theorem eX12_shapeOf (w : zW) (d : Nat) (x1 x2 : Int) (σ : zMem) : zcall w (d + 1) 295 [zA 13 32 209, zI x1, zI x2] σ =
  (zcall w d 218 [zA 13 32 209, zI x1] σ).bind fun r1 => if r1.1 = 0 then (zcall w d 214 [zA 13 32 209, zI (-62)] r1.2).bind fun r2 => some (r2.1, r2.2) else (zcall w d 213 [zJ x2, zJ 0, zJ 4] r1.2).bind fun r3 => if r3.1 = 0 then (zcall w d 214 [zA 13 32 209, zI (-62)] r3.2).bind fun r4 => some (r4.1, r4.2) else if x2 < 4 then (zcall w d 216 [zA 13 32 209, zI x1, zI x2] r3.2).bind fun r5 => some (r5.1, r5.2) else (zcall w d 294 [zA 13 32 209, zI x1] r3.2).bind fun r6 => some (r6.1, r6.2) :=
  (zcall_eq rfl).trans (zunr_eq w zc_X12_shapeOf [] (d + 1) 295 rfl 76 _ _ _ _).symm
set_option maxRecDepth 100000 in
theorem eX12_feed (w : zW) (d : Nat) (x1 : Int) (σ : zMem) : zcall w (d + 1) 296 [zA 13 32 209, zI x1] σ =
  (zcall w d 213 [zJ x1, zJ 0, zJ 255] σ).bind fun r1 => if r1.1 = 0 then (zcall w d 214 [zA 13 32 209, zI (-62)] r1.2).bind fun r2 => some (r2.1, r2.2) else if (r1.2 209 11) = 250 then (zcall w d 214 [zA 13 32 209, zI (-66)] r1.2).bind fun r3 => some (r3.1, r3.2) else if (0 : Int) ≤ (r1.2 209 11) ∧ (r1.2 209 11) < 250 then some ((zup (zup r1.2 223 (r1.2 209 11) x1) 209 11 (zar 0 ((zup r1.2 223 (r1.2 209 11) x1) 209 11) 1)) 209 11, zup (zup r1.2 223 (r1.2 209 11) x1) 209 11 (zar 0 ((zup r1.2 223 (r1.2 209 11) x1) 209 11) 1)) else none :=
  (zcall_eq rfl).trans (zunr_eq w zc_X12_feed [] (d + 1) 296 rfl 83 _ _ _ _).symm
set_option maxRecDepth 100000 in
theorem eX12_wipe (w : zW) (d : Nat) (σ : zMem) : zcall w d 297 [zA 13 32 209] σ =
  some (σ 209 11, zup σ 209 11 0) :=
  (zcall_eq rfl).trans (zunr_eq w zc_X12_wipe [] d 297 rfl 58 _ _ _ _).symm
set_option maxRecDepth 100000 in
theorem eX12_byteAt (w : zW) (d : Nat) (x1 : Int) (σ : zMem) : zcall w d 298 [zA 13 32 209, zI x1] σ =
  if x1 < (σ 209 11) then if (0 : Int) ≤ x1 ∧ x1 < 250 then some (σ 223 x1, σ) else none else some (-1, σ) :=
  (zcall_eq rfl).trans (zunr_eq w zc_X12_byteAt [] d 298 rfl 61 _ _ _ _).symm
set_option maxRecDepth 100000 in
theorem eX12_wordOf (w : zW) (d : Nat) (x1 x2 : Int) (σ : zMem) : zcall w (d + 1) 299 [zA 13 32 209, zI x1, zI x2] σ =
  zden w (d + 1) 299 2 [zA 13 32 209, zI x1, zI x2, zI 0, zU, zU] [] σ :=
  (zcall_eq rfl).trans (zunr_eq w zc_X12_wordOf [2, 20] (d + 1) 299 rfl 104 _ _ _ _).symm
set_option maxRecDepth 100000 in
theorem hX12_wordOf_2 (w : zW) (d : Nat) (x1 x2 x3 : Int) (v4 v5 : zV) (σ : zMem) : zden w (d + 1) 299 2 [zA 13 32 209, zI x1, zI x2, zI x3, v4, v5] [] σ =
  if x3 < 13 then if (0 : Int) ≤ x3 ∧ x3 < 13 then (zcall w d 345 [zA 40 0 (zR w 222 x3)] σ).bind fun r1 => if r1.1 = (zar 1 x2 x1) then zden w (d + 1) 299 20 [zA 13 32 209, zI x1, zI x2, zI x3, zI 1, zI 0] [] r1.2 else zden w (d + 1) 299 20 [zA 13 32 209, zI x1, zI x2, zI x3, zI 0, zI 0] [] r1.2 else none else some (-1, σ) :=
  (zunr_eq w zc_X12_wordOf [2, 20] (d + 1) 299 rfl 104 _ _ _ _).symm
set_option maxRecDepth 100000 in
theorem hX12_wordOf_20 (w : zW) (d : Nat) (x1 x2 x3 x4 x5 : Int) (σ : zMem) : zden w (d + 1) 299 20 [zA 13 32 209, zI x1, zI x2, zI x3, zI x4, zI x5] [] σ =
  if x4 = 0 then if x4 = 0 then zden w (d + 1) 299 2 [zA 13 32 209, zI x1, zI x2, zI (zar 0 x3 1), zI x4, zI x5] [] σ else some (x3, σ) else if x5 < (zar 1 x2 x1) then if (0 : Int) ≤ x3 ∧ x3 < 13 then (zcall w d 346 [zA 40 0 (zR w 222 x3), zI x5] σ).bind fun r1 => if (0 : Int) ≤ (zar 0 x1 x5) ∧ (zar 0 x1 x5) < 250 then if r1.1 = (r1.2 223 (zar 0 x1 x5)) then zden w (d + 1) 299 20 [zA 13 32 209, zI x1, zI x2, zI x3, zI 1, zI (zar 0 x5 1)] [] r1.2 else zden w (d + 1) 299 20 [zA 13 32 209, zI x1, zI x2, zI x3, zI 0, zI (zar 0 x5 1)] [] r1.2 else none else none else if x4 = 0 then zden w (d + 1) 299 2 [zA 13 32 209, zI x1, zI x2, zI (zar 0 x3 1), zI x4, zI x5] [] σ else some (x3, σ) :=
  (zunr_eq w zc_X12_wordOf [2, 20] (d + 1) 299 rfl 104 _ _ _ _).symm
set_option maxRecDepth 100000 in
theorem eX12_next (w : zW) (d : Nat) (σ : zMem) : zcall w (d + 1) 300 [zA 13 32 209] σ =
  (zcall w d 298 [zA 13 32 209, zI (σ 209 12)] σ).bind fun r1 => if r1.1 = 32 then zden w (d + 1) 300 0 [zA 13 32 209, zU] [] (zup r1.2 209 12 (zar 0 (r1.2 209 12) 1)) else (zcall w d 298 [zA 13 32 209, zI ((zup r1.2 209 13 (r1.2 209 12)) 209 12)] (zup r1.2 209 13 (r1.2 209 12))).bind fun r2 => if r2.1 = (-1) then some (0, zup r2.2 209 14 0) else (zcall w d 213 [zJ r2.1, zJ 97, zJ 122] r2.2).bind fun r3 => if r3.1 = 0 then (zcall w d 213 [zJ r2.1, zJ 48, zJ 57] r3.2).bind fun r4 => if r4.1 = 0 then if r2.1 = 45 then some (0, zup (zup (zup r4.2 209 12 (zar 0 (r4.2 209 12) 1)) 209 14 3) 209 15 r2.1) else if r2.1 = 40 then some (0, zup (zup (zup r4.2 209 12 (zar 0 (r4.2 209 12) 1)) 209 14 3) 209 15 r2.1) else if r2.1 = 44 then some (0, zup (zup (zup r4.2 209 12 (zar 0 (r4.2 209 12) 1)) 209 14 3) 209 15 r2.1) else if r2.1 = 41 then some (0, zup (zup (zup r4.2 209 12 (zar 0 (r4.2 209 12) 1)) 209 14 3) 209 15 r2.1) else some (0, zup (zup (zup r4.2 209 12 (zar 0 (r4.2 209 12) 1)) 209 14 4) 209 15 r2.1) else zden w (d + 1) 300 72 [zA 13 32 209, zI r2.1] [] (zup r4.2 209 15 0) else zden w (d + 1) 300 35 [zA 13 32 209, zI r2.1] [] r3.2 :=
  (zcall_eq rfl).trans (zunr_eq w zc_X12_next [0, 35, 72] (d + 1) 300 rfl 191 _ _ _ _).symm
set_option maxRecDepth 100000 in
theorem hX12_next_0 (w : zW) (d : Nat) (σ : zMem) : zden w (d + 1) 300 0 [zA 13 32 209, zU] [] σ =
  (zcall w d 298 [zA 13 32 209, zI (σ 209 12)] σ).bind fun r1 => if r1.1 = 32 then zden w (d + 1) 300 0 [zA 13 32 209, zU] [] (zup r1.2 209 12 (zar 0 (r1.2 209 12) 1)) else (zcall w d 298 [zA 13 32 209, zI ((zup r1.2 209 13 (r1.2 209 12)) 209 12)] (zup r1.2 209 13 (r1.2 209 12))).bind fun r2 => if r2.1 = (-1) then some (0, zup r2.2 209 14 0) else (zcall w d 213 [zJ r2.1, zJ 97, zJ 122] r2.2).bind fun r3 => if r3.1 = 0 then (zcall w d 213 [zJ r2.1, zJ 48, zJ 57] r3.2).bind fun r4 => if r4.1 = 0 then if r2.1 = 45 then some (0, zup (zup (zup r4.2 209 12 (zar 0 (r4.2 209 12) 1)) 209 14 3) 209 15 r2.1) else if r2.1 = 40 then some (0, zup (zup (zup r4.2 209 12 (zar 0 (r4.2 209 12) 1)) 209 14 3) 209 15 r2.1) else if r2.1 = 44 then some (0, zup (zup (zup r4.2 209 12 (zar 0 (r4.2 209 12) 1)) 209 14 3) 209 15 r2.1) else if r2.1 = 41 then some (0, zup (zup (zup r4.2 209 12 (zar 0 (r4.2 209 12) 1)) 209 14 3) 209 15 r2.1) else some (0, zup (zup (zup r4.2 209 12 (zar 0 (r4.2 209 12) 1)) 209 14 4) 209 15 r2.1) else zden w (d + 1) 300 72 [zA 13 32 209, zI r2.1] [] (zup r4.2 209 15 0) else zden w (d + 1) 300 35 [zA 13 32 209, zI r2.1] [] r3.2 :=
  (zunr_eq w zc_X12_next [0, 35, 72] (d + 1) 300 rfl 191 _ _ _ _).symm
set_option maxRecDepth 100000 in
theorem hX12_next_35 (w : zW) (d : Nat) (v1 : zV) (σ : zMem) : zden w (d + 1) 300 35 [zA 13 32 209, v1] [] σ =
  (zcall w d 298 [zA 13 32 209, zI (σ 209 12)] σ).bind fun r1 => (zcall w d 213 [zJ r1.1, zJ 97, zJ 122] r1.2).bind fun r2 => if r2.1 = 0 then (zcall w d 299 [zA 13 32 209, zI ((zup r2.2 209 14 1) 209 13), zI ((zup r2.2 209 14 1) 209 12)] (zup r2.2 209 14 1)).bind fun r3 => some (0, zup r3.2 209 15 r3.1) else zden w (d + 1) 300 35 [zA 13 32 209, v1] [] (zup r2.2 209 12 (zar 0 (r2.2 209 12) 1)) :=
  (zunr_eq w zc_X12_next [0, 35, 72] (d + 1) 300 rfl 191 _ _ _ _).symm
set_option maxRecDepth 100000 in
theorem hX12_next_72 (w : zW) (d : Nat) (v1 : zV) (σ : zMem) : zden w (d + 1) 300 72 [zA 13 32 209, v1] [] σ =
  (zcall w d 298 [zA 13 32 209, zI (σ 209 12)] σ).bind fun r1 => (zcall w d 213 [zJ r1.1, zJ 48, zJ 57] r1.2).bind fun r2 => if r2.1 = 0 then some (0, zup r2.2 209 14 2) else if (zar 1 (r2.2 209 12) (r2.2 209 13)) < 3 then (zcall w d 298 [zA 13 32 209, zI (r2.2 209 12)] r2.2).bind fun r3 => zden w (d + 1) 300 72 [zA 13 32 209, v1] [] (zup (zup r3.2 209 15 (zar 1 (zar 0 (zar 2 10 (r2.2 209 15)) r3.1) 48)) 209 12 (zar 0 ((zup r3.2 209 15 (zar 1 (zar 0 (zar 2 10 (r2.2 209 15)) r3.1) 48)) 209 12) 1)) else zden w (d + 1) 300 72 [zA 13 32 209, v1] [] (zup (zup r2.2 209 15 99999) 209 12 (zar 0 ((zup r2.2 209 15 99999) 209 12) 1)) :=
  (zunr_eq w zc_X12_next [0, 35, 72] (d + 1) 300 rfl 191 _ _ _ _).symm
set_option maxRecDepth 100000 in
theorem eX12_isSign (w : zW) (d : Nat) (x1 : Int) (σ : zMem) : zcall w (d + 1) 301 [zA 13 32 209, zI x1] σ =
  if (σ 209 14) = 3 then if (σ 209 15) = x1 then (zcall w d 300 [zA 13 32 209] σ).bind fun r1 => some (1, r1.2) else some (0, σ) else some (0, σ) :=
  (zcall_eq rfl).trans (zunr_eq w zc_X12_isSign [] (d + 1) 301 rfl 64 _ _ _ _).symm
set_option maxRecDepth 100000 in
theorem eX12_isBelow (w : zW) (d : Nat) (x1 x2 : Int) (σ : zMem) : zcall w d 302 [zI x1, zI x2] σ =
  if x1 = 3 then if x2 < 3 then some (1, σ) else some (0, σ) else if x1 = 4 then some (1, σ) else if x1 = 5 then some (1, σ) else if x1 = 12 then some (1, σ) else if x1 = 16 then if x2 = 0 then some (1, σ) else some (0, σ) else some (0, σ) :=
  (zcall_eq rfl).trans (zunr_eq w zc_X12_isBelow [] d 302 rfl 78 _ _ _ _).symm
set_option maxRecDepth 100000 in
theorem eX12_areRead (w : zW) (d : Nat) (x1 x2 : Int) (σ : zMem) : zcall w (d + 1) 303 [zA 13 32 209, zI x1, zI x2] σ =
  zden w (d + 1) 303 2 [zA 13 32 209, zI x1, zI x2, zI 0, zU, zU, zU] [] σ :=
  (zcall_eq rfl).trans (zunr_eq w zc_X12_areRead [2] (d + 1) 303 rfl 126 _ _ _ _).symm
set_option maxRecDepth 100000 in
theorem hX12_areRead_2 (w : zW) (d : Nat) (x1 x2 x3 : Int) (v4 v5 v6 : zV) (σ : zMem) : zden w (d + 1) 303 2 [zA 13 32 209, zI x1, zI x2, zI x3, v4, v5, v6] [] σ =
  (zcall w d 276 [zI x1] σ).bind fun r1 => if x3 < r1.1 then (zcall w d 302 [zI x1, zI x3] r1.2).bind fun r2 => if r2.1 = 0 then if x1 = 4 then if x3 < 3 then if (0 : Int) ≤ x2 ∧ x2 < 770 then if (r2.2 209 14) = 2 then if 999 < (r2.2 209 15) then some (0, r2.2) else (zcall w d 274 [zI x1, zI x3, zI (r2.2 209 15), zI (r2.2 224 x2)] r2.2).bind fun r3 => if r3.1 = 0 then some (0, r3.2) else if (0 : Int) ≤ (zar 0 x2 x3) ∧ (zar 0 x2 x3) < 770 then (zcall w d 300 [zA 13 32 209] (zup r3.2 224 (zar 0 x2 x3) (r2.2 209 15))).bind fun r4 => zden w (d + 1) 303 2 [zA 13 32 209, zI x1, zI x2, zI (zar 0 x3 1), zI 0, zI (r2.2 209 15), zI (r2.2 224 x2)] [] r4.2 else none else some (0, r2.2) else none else if (0 : Int) ≤ (zar 1 (zar 0 x2 x3) 3) ∧ (zar 1 (zar 0 x2 x3) 3) < 770 then if (r2.2 209 14) = 2 then if 999 < (r2.2 209 15) then some (0, r2.2) else (zcall w d 274 [zI x1, zI x3, zI (r2.2 209 15), zI (r2.2 224 (zar 1 (zar 0 x2 x3) 3))] r2.2).bind fun r5 => if r5.1 = 0 then some (0, r5.2) else if (0 : Int) ≤ (zar 0 x2 x3) ∧ (zar 0 x2 x3) < 770 then (zcall w d 300 [zA 13 32 209] (zup r5.2 224 (zar 0 x2 x3) (r2.2 209 15))).bind fun r6 => zden w (d + 1) 303 2 [zA 13 32 209, zI x1, zI x2, zI (zar 0 x3 1), zI 0, zI (r2.2 209 15), zI (r2.2 224 (zar 1 (zar 0 x2 x3) 3))] [] r6.2 else none else some (0, r2.2) else none else if (0 : Int) ≤ x2 ∧ x2 < 770 then if (r2.2 209 14) = 2 then if 999 < (r2.2 209 15) then some (0, r2.2) else (zcall w d 274 [zI x1, zI x3, zI (r2.2 209 15), zI (r2.2 224 x2)] r2.2).bind fun r7 => if r7.1 = 0 then some (0, r7.2) else if (0 : Int) ≤ (zar 0 x2 x3) ∧ (zar 0 x2 x3) < 770 then (zcall w d 300 [zA 13 32 209] (zup r7.2 224 (zar 0 x2 x3) (r2.2 209 15))).bind fun r8 => zden w (d + 1) 303 2 [zA 13 32 209, zI x1, zI x2, zI (zar 0 x3 1), zI 0, zI (r2.2 209 15), zI (r2.2 224 x2)] [] r8.2 else none else some (0, r2.2) else none else (zcall w d 301 [zA 13 32 209, zI 45] r2.2).bind fun r9 => if r9.1 = 0 then if x1 = 4 then if x3 < 3 then if (0 : Int) ≤ x2 ∧ x2 < 770 then if (r9.2 209 14) = 2 then if 999 < (r9.2 209 15) then some (0, r9.2) else (zcall w d 274 [zI x1, zI x3, zI (r9.2 209 15), zI (r9.2 224 x2)] r9.2).bind fun r10 => if r10.1 = 0 then some (0, r10.2) else if (0 : Int) ≤ (zar 0 x2 x3) ∧ (zar 0 x2 x3) < 770 then (zcall w d 300 [zA 13 32 209] (zup r10.2 224 (zar 0 x2 x3) (r9.2 209 15))).bind fun r11 => zden w (d + 1) 303 2 [zA 13 32 209, zI x1, zI x2, zI (zar 0 x3 1), zI 0, zI (r9.2 209 15), zI (r9.2 224 x2)] [] r11.2 else none else some (0, r9.2) else none else if (0 : Int) ≤ (zar 1 (zar 0 x2 x3) 3) ∧ (zar 1 (zar 0 x2 x3) 3) < 770 then if (r9.2 209 14) = 2 then if 999 < (r9.2 209 15) then some (0, r9.2) else (zcall w d 274 [zI x1, zI x3, zI (r9.2 209 15), zI (r9.2 224 (zar 1 (zar 0 x2 x3) 3))] r9.2).bind fun r12 => if r12.1 = 0 then some (0, r12.2) else if (0 : Int) ≤ (zar 0 x2 x3) ∧ (zar 0 x2 x3) < 770 then (zcall w d 300 [zA 13 32 209] (zup r12.2 224 (zar 0 x2 x3) (r9.2 209 15))).bind fun r13 => zden w (d + 1) 303 2 [zA 13 32 209, zI x1, zI x2, zI (zar 0 x3 1), zI 0, zI (r9.2 209 15), zI (r9.2 224 (zar 1 (zar 0 x2 x3) 3))] [] r13.2 else none else some (0, r9.2) else none else if (0 : Int) ≤ x2 ∧ x2 < 770 then if (r9.2 209 14) = 2 then if 999 < (r9.2 209 15) then some (0, r9.2) else (zcall w d 274 [zI x1, zI x3, zI (r9.2 209 15), zI (r9.2 224 x2)] r9.2).bind fun r14 => if r14.1 = 0 then some (0, r14.2) else if (0 : Int) ≤ (zar 0 x2 x3) ∧ (zar 0 x2 x3) < 770 then (zcall w d 300 [zA 13 32 209] (zup r14.2 224 (zar 0 x2 x3) (r9.2 209 15))).bind fun r15 => zden w (d + 1) 303 2 [zA 13 32 209, zI x1, zI x2, zI (zar 0 x3 1), zI 0, zI (r9.2 209 15), zI (r9.2 224 x2)] [] r15.2 else none else some (0, r9.2) else none else if x1 = 4 then if x3 < 3 then if (0 : Int) ≤ x2 ∧ x2 < 770 then if (r9.2 209 14) = 2 then if 999 < (r9.2 209 15) then some (0, r9.2) else (zcall w d 274 [zI x1, zI x3, zI (zar 5 (r9.2 209 15) 0), zI (r9.2 224 x2)] r9.2).bind fun r16 => if r16.1 = 0 then some (0, r16.2) else if (0 : Int) ≤ (zar 0 x2 x3) ∧ (zar 0 x2 x3) < 770 then (zcall w d 300 [zA 13 32 209] (zup r16.2 224 (zar 0 x2 x3) (zar 5 (r9.2 209 15) 0))).bind fun r17 => zden w (d + 1) 303 2 [zA 13 32 209, zI x1, zI x2, zI (zar 0 x3 1), zI 1, zI (zar 5 (r9.2 209 15) 0), zI (r9.2 224 x2)] [] r17.2 else none else some (0, r9.2) else none else if (0 : Int) ≤ (zar 1 (zar 0 x2 x3) 3) ∧ (zar 1 (zar 0 x2 x3) 3) < 770 then if (r9.2 209 14) = 2 then if 999 < (r9.2 209 15) then some (0, r9.2) else (zcall w d 274 [zI x1, zI x3, zI (zar 5 (r9.2 209 15) 0), zI (r9.2 224 (zar 1 (zar 0 x2 x3) 3))] r9.2).bind fun r18 => if r18.1 = 0 then some (0, r18.2) else if (0 : Int) ≤ (zar 0 x2 x3) ∧ (zar 0 x2 x3) < 770 then (zcall w d 300 [zA 13 32 209] (zup r18.2 224 (zar 0 x2 x3) (zar 5 (r9.2 209 15) 0))).bind fun r19 => zden w (d + 1) 303 2 [zA 13 32 209, zI x1, zI x2, zI (zar 0 x3 1), zI 1, zI (zar 5 (r9.2 209 15) 0), zI (r9.2 224 (zar 1 (zar 0 x2 x3) 3))] [] r19.2 else none else some (0, r9.2) else none else if (0 : Int) ≤ x2 ∧ x2 < 770 then if (r9.2 209 14) = 2 then if 999 < (r9.2 209 15) then some (0, r9.2) else (zcall w d 274 [zI x1, zI x3, zI (zar 5 (r9.2 209 15) 0), zI (r9.2 224 x2)] r9.2).bind fun r20 => if r20.1 = 0 then some (0, r20.2) else if (0 : Int) ≤ (zar 0 x2 x3) ∧ (zar 0 x2 x3) < 770 then (zcall w d 300 [zA 13 32 209] (zup r20.2 224 (zar 0 x2 x3) (zar 5 (r9.2 209 15) 0))).bind fun r21 => zden w (d + 1) 303 2 [zA 13 32 209, zI x1, zI x2, zI (zar 0 x3 1), zI 1, zI (zar 5 (r9.2 209 15) 0), zI (r9.2 224 x2)] [] r21.2 else none else some (0, r9.2) else none else some (1, r1.2) :=
  (zunr_eq w zc_X12_areRead [2] (d + 1) 303 rfl 126 _ _ _ _).symm
set_option maxRecDepth 100000 in
theorem eX12_shapeRead (w : zW) (d : Nat) (x1 : Int) (σ : zMem) : zcall w (d + 1) 304 [zA 13 32 209, zI x1] σ =
  if (σ 209 14) = 1 then if (σ 209 15) < 0 then zden w (d + 1) 304 7 [zA 13 32 209, zI x1, zU, zU, zU, zU, zU, zU, zU, zU, zU] [] σ else if (σ 209 15) < 3 then zden w (d + 1) 304 27 [zA 13 32 209, zI x1, zI (σ 209 13), zU, zU, zU, zU, zU, zU, zU, zU] [zI (zar 0 3 (σ 209 15))] σ else zden w (d + 1) 304 27 [zA 13 32 209, zI x1, zI (σ 209 13), zU, zU, zU, zU, zU, zU, zU, zU] [zI (zar 1 (zar 0 8 (σ 209 15)) 3)] σ else zden w (d + 1) 304 7 [zA 13 32 209, zI x1, zU, zU, zU, zU, zU, zU, zU, zU, zU] [] σ :=
  (zcall_eq rfl).trans (zunr_eq w zc_X12_shapeRead [7, 27, 41, 78, 97, 102, 107, 133, 135, 161, 162, 168, 176, 186, 226] (d + 1) 304 rfl 308 _ _ _ _).symm
set_option maxRecDepth 100000 in
theorem hX12_shapeRead_7 (w : zW) (d : Nat) (v0 v1 : zV) (σ : zMem) : zden w (d + 1) 304 7 [v0, v1, zU, zU, zU, zU, zU, zU, zU, zU, zU] [] σ =
  some (-1, σ) :=
  (zunr_eq w zc_X12_shapeRead [7, 27, 41, 78, 97, 102, 107, 133, 135, 161, 162, 168, 176, 186, 226] (d + 1) 304 rfl 308 _ _ _ _).symm
set_option maxRecDepth 100000 in
theorem hX12_shapeRead_27 (w : zW) (d : Nat) (x1 x2 s0 : Int) (σ : zMem) : zden w (d + 1) 304 27 [zA 13 32 209, zI x1, zI x2, zU, zU, zU, zU, zU, zU, zU, zU] [zI s0] σ =
  (zcall w d 300 [zA 13 32 209] σ).bind fun r1 => (zcall w d 303 [zA 13 32 209, zI s0, zI 759] r1.2).bind fun r2 => if r2.1 = 0 then some (-1, r2.2) else zden w (d + 1) 304 41 [zA 13 32 209, zI x1, zI x2, zI s0, zI 759, zI 0, zU, zU, zU, zU, zU] [] r2.2 :=
  (zunr_eq w zc_X12_shapeRead [7, 27, 41, 78, 97, 102, 107, 133, 135, 161, 162, 168, 176, 186, 226] (d + 1) 304 rfl 308 _ _ _ _).symm
set_option maxRecDepth 100000 in
theorem hX12_shapeRead_41 (w : zW) (d : Nat) (x1 x2 x3 x4 x5 : Int) (σ : zMem) : zden w (d + 1) 304 41 [zA 13 32 209, zI x1, zI x2, zI x3, zI x4, zI x5, zU, zU, zU, zU, zU] [] σ =
  if x5 < 6 then if (0 : Int) ≤ (zar 0 x4 x5) ∧ (zar 0 x4 x5) < 770 then if (0 : Int) ≤ (zar 0 (zar 2 6 x1) x5) ∧ (zar 0 (zar 2 6 x1) x5) < 420 then zden w (d + 1) 304 41 [zA 13 32 209, zI x1, zI x2, zI x3, zI x4, zI (zar 0 x5 1), zU, zU, zU, zU, zU] [] (zup σ 225 (zar 0 (zar 2 6 x1) x5) (σ 224 (zar 0 x4 x5))) else none else none else if 5 < x3 then (zcall w d 301 [zA 13 32 209, zI 40] σ).bind fun r1 => if r1.1 = 0 then zden w (d + 1) 304 78 [zA 13 32 209, zI x1, zI x2, zI x3, zI x4, zI (-1), zI (-1), zU, zU, zU, zU] [zI (-1)] r1.2 else (zcall w d 304 [zA 13 32 209, zI (zar 0 x1 1)] r1.2).bind fun r2 => zden w (d + 1) 304 78 [zA 13 32 209, zI x1, zI x2, zI x3, zI x4, zI (-1), zI (-1), zU, zU, zU, zU] [zI r2.1] r2.2 else zden w (d + 1) 304 107 [zA 13 32 209, zI x1, zI x2, zI x3, zI x4, zI (-1), zI (-1), zU, zU, zU, zU] [] σ :=
  (zunr_eq w zc_X12_shapeRead [7, 27, 41, 78, 97, 102, 107, 133, 135, 161, 162, 168, 176, 186, 226] (d + 1) 304 rfl 308 _ _ _ _).symm
set_option maxRecDepth 100000 in
theorem hX12_shapeRead_78 (w : zW) (d : Nat) (x1 x2 x3 x6 s0 : Int) (v4 v5 : zV) (σ : zMem) : zden w (d + 1) 304 78 [zA 13 32 209, zI x1, zI x2, zI x3, v4, v5, zI x6, zU, zU, zU, zU] [zI s0] σ =
  if s0 < 0 then some (-1, σ) else if 11 < x3 then zden w (d + 1) 304 102 [zA 13 32 209, zI x1, zI x2, zI x3, (zlng 0 v4), zI s0, zI x6, zU, zU, zU, zU] [] σ else (zcall w d 301 [zA 13 32 209, zI 44] σ).bind fun r1 => if r1.1 = 0 then zden w (d + 1) 304 97 [zA 13 32 209, zI x1, zI x2, zI x3, (zlng 0 v4), zI s0, zI x6, zU, zU, zU, zU] [zI (-1)] r1.2 else (zcall w d 304 [zA 13 32 209, zI (zar 0 x1 1)] r1.2).bind fun r2 => zden w (d + 1) 304 97 [zA 13 32 209, zI x1, zI x2, zI x3, (zlng 0 v4), zI s0, zI x6, zU, zU, zU, zU] [zI r2.1] r2.2 :=
  (zunr_eq w zc_X12_shapeRead [7, 27, 41, 78, 97, 102, 107, 133, 135, 161, 162, 168, 176, 186, 226] (d + 1) 304 rfl 308 _ _ _ _).symm
set_option maxRecDepth 100000 in
theorem hX12_shapeRead_97 (w : zW) (d : Nat) (x1 x2 x3 x5 s0 : Int) (v4 v6 : zV) (σ : zMem) : zden w (d + 1) 304 97 [zA 13 32 209, zI x1, zI x2, zI x3, v4, zI x5, v6, zU, zU, zU, zU] [zI s0] σ =
  if s0 < 0 then some (-1, σ) else zden w (d + 1) 304 102 [zA 13 32 209, zI x1, zI x2, zI x3, v4, zI x5, zI s0, zU, zU, zU, zU] [] σ :=
  (zunr_eq w zc_X12_shapeRead [7, 27, 41, 78, 97, 102, 107, 133, 135, 161, 162, 168, 176, 186, 226] (d + 1) 304 rfl 308 _ _ _ _).symm
set_option maxRecDepth 100000 in
theorem hX12_shapeRead_102 (w : zW) (d : Nat) (x1 x2 x3 x5 x6 : Int) (v4 : zV) (σ : zMem) : zden w (d + 1) 304 102 [zA 13 32 209, zI x1, zI x2, zI x3, v4, zI x5, zI x6, zU, zU, zU, zU] [] σ =
  (zcall w d 305 [zA 13 32 209] σ).bind fun r1 => if r1.1 = 0 then some (-1, r1.2) else zden w (d + 1) 304 107 [zA 13 32 209, zI x1, zI x2, zI x3, v4, zI x5, zI x6, zU, zU, zU, zU] [] r1.2 :=
  (zunr_eq w zc_X12_shapeRead [7, 27, 41, 78, 97, 102, 107, 133, 135, 161, 162, 168, 176, 186, 226] (d + 1) 304 rfl 308 _ _ _ _).symm
set_option maxRecDepth 100000 in
theorem hX12_shapeRead_107 (w : zW) (d : Nat) (x1 x2 x3 x5 x6 : Int) (v4 : zV) (σ : zMem) : zden w (d + 1) 304 107 [zA 13 32 209, zI x1, zI x2, zI x3, v4, zI x5, zI x6, zU, zU, zU, zU] [] σ =
  if 5 < x3 then if (0 : Int) ≤ (zar 0 (zar 2 11 x5) 3) ∧ (zar 0 (zar 2 11 x5) 3) < 770 then if x6 < 0 then zden w (d + 1) 304 133 [zA 13 32 209, zI x1, zI x2, zI x3, v4, zI x5, zI x6, zU, zU, zU, zU] [zI 0, zI (σ 224 (zar 0 (zar 2 11 x5) 3)), zI 1] σ else if (0 : Int) ≤ (zar 0 (zar 2 11 x6) 3) ∧ (zar 0 (zar 2 11 x6) 3) < 770 then zden w (d + 1) 304 133 [zA 13 32 209, zI x1, zI x2, zI x3, v4, zI x5, zI x6, zU, zU, zU, zU] [zI (σ 224 (zar 0 (zar 2 11 x6) 3)), zI (σ 224 (zar 0 (zar 2 11 x5) 3)), zI 1] σ else none else none else zden w (d + 1) 304 135 [zA 13 32 209, zI x1, zI x2, zI x3, v4, zI x5, zI x6, zU, zU, zU, zU] [zI 0] σ :=
  (zunr_eq w zc_X12_shapeRead [7, 27, 41, 78, 97, 102, 107, 133, 135, 161, 162, 168, 176, 186, 226] (d + 1) 304 rfl 308 _ _ _ _).symm
set_option maxRecDepth 100000 in
theorem hX12_shapeRead_133 (w : zW) (d : Nat) (x1 x2 x3 x5 x6 s0 s1 s2 : Int) (v4 : zV) (σ : zMem) : zden w (d + 1) 304 133 [zA 13 32 209, zI x1, zI x2, zI x3, v4, zI x5, zI x6, zU, zU, zU, zU] [zI s2, zI s1, zI s0] σ =
  (zcall w d 341 [zI s1, zI s2] σ).bind fun r1 => zden w (d + 1) 304 135 [zA 13 32 209, zI x1, zI x2, zI x3, v4, zI x5, zI x6, zU, zU, zU, zU] [zI (zar 0 s0 r1.1)] r1.2 :=
  (zunr_eq w zc_X12_shapeRead [7, 27, 41, 78, 97, 102, 107, 133, 135, 161, 162, 168, 176, 186, 226] (d + 1) 304 rfl 308 _ _ _ _).symm
set_option maxRecDepth 100000 in
theorem hX12_shapeRead_135 (w : zW) (d : Nat) (x1 x2 x3 x5 x6 s0 : Int) (v4 : zV) (σ : zMem) : zden w (d + 1) 304 135 [zA 13 32 209, zI x1, zI x2, zI x3, v4, zI x5, zI x6, zU, zU, zU, zU] [zI s0] σ =
  if 5 < x3 then if (0 : Int) ≤ (zar 0 (zar 2 11 x5) 4) ∧ (zar 0 (zar 2 11 x5) 4) < 770 then if x6 < 0 then zden w (d + 1) 304 161 [zA 13 32 209, zI x1, zI x2, zI x3, v4, zI x5, zI x6, zI s0, zU, zU, zU] [zI 0, zI (σ 224 (zar 0 (zar 2 11 x5) 4))] σ else if (0 : Int) ≤ (zar 0 (zar 2 11 x6) 4) ∧ (zar 0 (zar 2 11 x6) 4) < 770 then zden w (d + 1) 304 161 [zA 13 32 209, zI x1, zI x2, zI x3, v4, zI x5, zI x6, zI s0, zU, zU, zU] [zI (σ 224 (zar 0 (zar 2 11 x6) 4)), zI (σ 224 (zar 0 (zar 2 11 x5) 4))] σ else none else none else zden w (d + 1) 304 162 [zA 13 32 209, zI x1, zI x2, zI x3, v4, zI x5, zI x6, zI s0, zU, zU, zU] [zI 0] σ :=
  (zunr_eq w zc_X12_shapeRead [7, 27, 41, 78, 97, 102, 107, 133, 135, 161, 162, 168, 176, 186, 226] (d + 1) 304 rfl 308 _ _ _ _).symm
set_option maxRecDepth 100000 in
theorem hX12_shapeRead_161 (w : zW) (d : Nat) (x1 x2 x3 x5 x6 x7 s0 s1 : Int) (v4 : zV) (σ : zMem) : zden w (d + 1) 304 161 [zA 13 32 209, zI x1, zI x2, zI x3, v4, zI x5, zI x6, zI x7, zU, zU, zU] [zI s1, zI s0] σ =
  (zcall w d 341 [zI s0, zI s1] σ).bind fun r1 => zden w (d + 1) 304 162 [zA 13 32 209, zI x1, zI x2, zI x3, v4, zI x5, zI x6, zI x7, zU, zU, zU] [zI r1.1] r1.2 :=
  (zunr_eq w zc_X12_shapeRead [7, 27, 41, 78, 97, 102, 107, 133, 135, 161, 162, 168, 176, 186, 226] (d + 1) 304 rfl 308 _ _ _ _).symm
set_option maxRecDepth 100000 in
theorem hX12_shapeRead_162 (w : zW) (d : Nat) (x1 x2 x3 x5 x6 x7 s0 : Int) (v4 : zV) (σ : zMem) : zden w (d + 1) 304 162 [zA 13 32 209, zI x1, zI x2, zI x3, v4, zI x5, zI x6, zI x7, zU, zU, zU] [zI s0] σ =
  if x3 = 11 then zden w (d + 1) 304 168 [zA 13 32 209, zI x1, zI x2, zI x3, v4, zI x5, zI x6, zI x7, zU, zU, zU] [zI 1, zI s0] σ else zden w (d + 1) 304 168 [zA 13 32 209, zI x1, zI x2, zI x3, v4, zI x5, zI x6, zI x7, zU, zU, zU] [zI 0, zI s0] σ :=
  (zunr_eq w zc_X12_shapeRead [7, 27, 41, 78, 97, 102, 107, 133, 135, 161, 162, 168, 176, 186, 226] (d + 1) 304 rfl 308 _ _ _ _).symm
set_option maxRecDepth 100000 in
theorem hX12_shapeRead_168 (w : zW) (d : Nat) (x1 x2 x3 x5 x6 x7 s0 s1 : Int) (v4 : zV) (σ : zMem) : zden w (d + 1) 304 168 [zA 13 32 209, zI x1, zI x2, zI x3, v4, zI x5, zI x6, zI x7, zU, zU, zU] [zI s1, zI s0] σ =
  if 6 < x7 then zden w (d + 1) 304 176 [zA 13 32 209, zI x1, zI x2, zI x3, v4, zI x5, zI x6, zI x7, zI (zar 0 s0 s1), zU, zU] [] σ else if 2 < (zar 0 s0 s1) then zden w (d + 1) 304 176 [zA 13 32 209, zI x1, zI x2, zI x3, v4, zI x5, zI x6, zI x7, zI (zar 0 s0 s1), zU, zU] [] σ else if 5 < x3 then (zcall w d 300 [zA 13 32 209] σ).bind fun r1 => zden w (d + 1) 304 186 [zA 13 32 209, zI x1, zI x2, zI x3, v4, zI x5, zI x6, zI x7, zI (zar 0 s0 s1), zU, zU] [] r1.2 else zden w (d + 1) 304 186 [zA 13 32 209, zI x1, zI x2, zI x3, v4, zI x5, zI x6, zI x7, zI (zar 0 s0 s1), zU, zU] [] σ :=
  (zunr_eq w zc_X12_shapeRead [7, 27, 41, 78, 97, 102, 107, 133, 135, 161, 162, 168, 176, 186, 226] (d + 1) 304 rfl 308 _ _ _ _).symm
set_option maxRecDepth 100000 in
theorem hX12_shapeRead_176 (w : zW) (d : Nat) (x2 : Int) (v1 v3 v4 v5 v6 v7 v8 : zV) (σ : zMem) : zden w (d + 1) 304 176 [zA 13 32 209, v1, zI x2, v3, v4, v5, v6, v7, v8, zU, zU] [] σ =
  some (-1, zup σ 209 13 x2) :=
  (zunr_eq w zc_X12_shapeRead [7, 27, 41, 78, 97, 102, 107, 133, 135, 161, 162, 168, 176, 186, 226] (d + 1) 304 rfl 308 _ _ _ _).symm
set_option maxRecDepth 100000 in
theorem hX12_shapeRead_186 (w : zW) (d : Nat) (x1 x3 x5 x6 x7 x8 : Int) (v2 v4 : zV) (σ : zMem) : zden w (d + 1) 304 186 [zA 13 32 209, zI x1, v2, zI x3, v4, zI x5, zI x6, zI x7, zI x8, zU, zU] [] σ =
  if (0 : Int) ≤ (zar 2 11 (σ 209 17)) ∧ (zar 2 11 (σ 209 17)) < 770 then if (0 : Int) ≤ (zar 0 (zar 2 11 (σ 209 17)) 1) ∧ (zar 0 (zar 2 11 (σ 209 17)) 1) < 770 then if (0 : Int) ≤ (zar 0 (zar 2 11 (σ 209 17)) 2) ∧ (zar 0 (zar 2 11 (σ 209 17)) 2) < 770 then if (0 : Int) ≤ (zar 0 (zar 2 11 (σ 209 17)) 3) ∧ (zar 0 (zar 2 11 (σ 209 17)) 3) < 770 then if (0 : Int) ≤ (zar 0 (zar 2 11 (σ 209 17)) 4) ∧ (zar 0 (zar 2 11 (σ 209 17)) 4) < 770 then zden w (d + 1) 304 226 [zA 13 32 209, zI x1, v2, zI x3, v4, zI x5, zI x6, zI x7, zI x8, zI (zar 2 11 (σ 209 17)), zI 0] [] (zup (zup (zup (zup (zup σ 224 (zar 2 11 (σ 209 17)) x3) 224 (zar 0 (zar 2 11 (σ 209 17)) 1) x5) 224 (zar 0 (zar 2 11 (σ 209 17)) 2) x6) 224 (zar 0 (zar 2 11 (σ 209 17)) 3) x7) 224 (zar 0 (zar 2 11 (σ 209 17)) 4) x8) else none else none else none else none else none :=
  (zunr_eq w zc_X12_shapeRead [7, 27, 41, 78, 97, 102, 107, 133, 135, 161, 162, 168, 176, 186, 226] (d + 1) 304 rfl 308 _ _ _ _).symm
set_option maxRecDepth 100000 in
theorem hX12_shapeRead_226 (w : zW) (d : Nat) (x1 x9 x10 : Int) (v2 v3 v4 v5 v6 v7 v8 : zV) (σ : zMem) : zden w (d + 1) 304 226 [zA 13 32 209, zI x1, v2, v3, v4, v5, v6, v7, v8, zI x9, zI x10] [] σ =
  if x10 < 6 then if (0 : Int) ≤ (zar 0 (zar 2 6 x1) x10) ∧ (zar 0 (zar 2 6 x1) x10) < 420 then if (0 : Int) ≤ (zar 0 (zar 0 x9 5) x10) ∧ (zar 0 (zar 0 x9 5) x10) < 770 then zden w (d + 1) 304 226 [zA 13 32 209, zI x1, v2, v3, v4, v5, v6, v7, v8, zI x9, zI (zar 0 x10 1)] [] (zup σ 224 (zar 0 (zar 0 x9 5) x10) (σ 225 (zar 0 (zar 2 6 x1) x10))) else none else none else some (zar 1 ((zup σ 209 17 (zar 0 (σ 209 17) 1)) 209 17) 1, zup σ 209 17 (zar 0 (σ 209 17) 1)) :=
  (zunr_eq w zc_X12_shapeRead [7, 27, 41, 78, 97, 102, 107, 133, 135, 161, 162, 168, 176, 186, 226] (d + 1) 304 rfl 308 _ _ _ _).symm
set_option maxRecDepth 100000 in
theorem eX12_isClosed (w : zW) (d : Nat) (σ : zMem) : zcall w d 305 [zA 13 32 209] σ =
  if (σ 209 14) = 3 then if (σ 209 15) = 41 then some (1, σ) else some (0, σ) else some (0, σ) :=
  (zcall_eq rfl).trans (zunr_eq w zc_X12_isClosed [] d 305 rfl 62 _ _ _ _).symm
set_option maxRecDepth 100000 in
theorem eX12_shape (w : zW) (d : Nat) (σ : zMem) : zcall w (d + 1) 306 [zA 13 32 209] σ =
  (zcall w d 300 [zA 13 32 209] (zup (zup σ 209 12 0) 209 17 0)).bind fun r1 => (zcall w d 304 [zA 13 32 209, zI 0] r1.2).bind fun r2 => if r2.1 < 0 then some (zar 1 (-700) (r2.2 209 13), zup (zup r2.2 209 11 0) 211 0 (zar 0 ((zup r2.2 209 11 0) 211 0) 1)) else if (r2.2 209 14) = 0 then if 24 < (zar 0 ((zup r2.2 209 11 0) 209 1) ((zup r2.2 209 11 0) 209 17)) then (zcall w d 214 [zA 13 32 209, zI (-66)] (zup r2.2 209 11 0)).bind fun r3 => some (r3.1, r3.2) else zden w (d + 1) 306 56 [zA 13 32 209, zI 1, zI (r2.2 209 13), zI ((zup r2.2 209 11 0) 209 1), zI (-1), zI 0, zU] [] (zup r2.2 209 11 0) else some (zar 1 (-700) (r2.2 209 13), zup (zup r2.2 209 11 0) 211 0 (zar 0 ((zup r2.2 209 11 0) 211 0) 1)) :=
  (zcall_eq rfl).trans (zunr_eq w zc_X12_shape [56] (d + 1) 306 rfl 176 _ _ _ _).symm
set_option maxRecDepth 100000 in
theorem hX12_shape_56 (w : zW) (d : Nat) (x3 x4 x5 : Int) (v1 v2 v6 : zV) (σ : zMem) : zden w (d + 1) 306 56 [zA 13 32 209, v1, v2, zI x3, zI x4, zI x5, v6] [] σ =
  if x5 < (σ 209 17) then if (0 : Int) ≤ (zar 2 11 x5) ∧ (zar 2 11 x5) < 770 then if (0 : Int) ≤ (zar 0 (zar 2 11 x5) 1) ∧ (zar 0 (zar 2 11 x5) 1) < 770 then if (σ 224 (zar 0 (zar 2 11 x5) 1)) < 0 then if (0 : Int) ≤ (zar 0 (zar 2 11 x5) 2) ∧ (zar 0 (zar 2 11 x5) 2) < 770 then if (σ 224 (zar 0 (zar 2 11 x5) 2)) < 0 then if (0 : Int) ≤ (zar 0 (zar 2 11 x5) 3) ∧ (zar 0 (zar 2 11 x5) 3) < 770 then if (0 : Int) ≤ (zar 0 (zar 2 11 x5) 4) ∧ (zar 0 (zar 2 11 x5) 4) < 770 then (zcall w d 281 [zA 13 32 209, zI (σ 224 (zar 2 11 x5)), zI (-1), zI (-1), zI (σ 224 (zar 0 (zar 2 11 x5) 3)), zI (σ 224 (zar 0 (zar 2 11 x5) 4)), zA 20 770 224, zI (zar 0 (zar 2 11 x5) 5)] σ).bind fun r1 => zden w (d + 1) 306 56 [zA 13 32 209, v1, v2, zI x3, zI r1.1, zI (zar 0 x5 1), zI (zar 2 11 x5)] [] r1.2 else none else none else if (0 : Int) ≤ (zar 0 (zar 2 11 x5) 2) ∧ (zar 0 (zar 2 11 x5) 2) < 770 then if (0 : Int) ≤ (zar 0 (zar 2 11 x5) 3) ∧ (zar 0 (zar 2 11 x5) 3) < 770 then if (0 : Int) ≤ (zar 0 (zar 2 11 x5) 4) ∧ (zar 0 (zar 2 11 x5) 4) < 770 then (zcall w d 281 [zA 13 32 209, zI (σ 224 (zar 2 11 x5)), zI (-1), zI (zar 0 x3 (σ 224 (zar 0 (zar 2 11 x5) 2))), zI (σ 224 (zar 0 (zar 2 11 x5) 3)), zI (σ 224 (zar 0 (zar 2 11 x5) 4)), zA 20 770 224, zI (zar 0 (zar 2 11 x5) 5)] σ).bind fun r2 => zden w (d + 1) 306 56 [zA 13 32 209, v1, v2, zI x3, zI r2.1, zI (zar 0 x5 1), zI (zar 2 11 x5)] [] r2.2 else none else none else none else none else if (0 : Int) ≤ (zar 0 (zar 2 11 x5) 1) ∧ (zar 0 (zar 2 11 x5) 1) < 770 then if (0 : Int) ≤ (zar 0 (zar 2 11 x5) 2) ∧ (zar 0 (zar 2 11 x5) 2) < 770 then if (σ 224 (zar 0 (zar 2 11 x5) 2)) < 0 then if (0 : Int) ≤ (zar 0 (zar 2 11 x5) 3) ∧ (zar 0 (zar 2 11 x5) 3) < 770 then if (0 : Int) ≤ (zar 0 (zar 2 11 x5) 4) ∧ (zar 0 (zar 2 11 x5) 4) < 770 then (zcall w d 281 [zA 13 32 209, zI (σ 224 (zar 2 11 x5)), zI (zar 0 x3 (σ 224 (zar 0 (zar 2 11 x5) 1))), zI (-1), zI (σ 224 (zar 0 (zar 2 11 x5) 3)), zI (σ 224 (zar 0 (zar 2 11 x5) 4)), zA 20 770 224, zI (zar 0 (zar 2 11 x5) 5)] σ).bind fun r3 => zden w (d + 1) 306 56 [zA 13 32 209, v1, v2, zI x3, zI r3.1, zI (zar 0 x5 1), zI (zar 2 11 x5)] [] r3.2 else none else none else if (0 : Int) ≤ (zar 0 (zar 2 11 x5) 2) ∧ (zar 0 (zar 2 11 x5) 2) < 770 then if (0 : Int) ≤ (zar 0 (zar 2 11 x5) 3) ∧ (zar 0 (zar 2 11 x5) 3) < 770 then if (0 : Int) ≤ (zar 0 (zar 2 11 x5) 4) ∧ (zar 0 (zar 2 11 x5) 4) < 770 then (zcall w d 281 [zA 13 32 209, zI (σ 224 (zar 2 11 x5)), zI (zar 0 x3 (σ 224 (zar 0 (zar 2 11 x5) 1))), zI (zar 0 x3 (σ 224 (zar 0 (zar 2 11 x5) 2))), zI (σ 224 (zar 0 (zar 2 11 x5) 3)), zI (σ 224 (zar 0 (zar 2 11 x5) 4)), zA 20 770 224, zI (zar 0 (zar 2 11 x5) 5)] σ).bind fun r4 => zden w (d + 1) 306 56 [zA 13 32 209, v1, v2, zI x3, zI r4.1, zI (zar 0 x5 1), zI (zar 2 11 x5)] [] r4.2 else none else none else none else none else none else none else none else some (x4, σ) :=
  (zunr_eq w zc_X12_shape [56] (d + 1) 306 rfl 176 _ _ _ _).symm
set_option maxRecDepth 100000 in
theorem eX12_isShelf (w : zW) (d : Nat) (x1 : Int) (σ : zMem) : zcall w (d + 1) 307 [zI x1] σ =
  (zcall w d 213 [zJ x1, zJ 0, zJ 7] σ).bind fun r1 => if 0 ≤ r1.1 ∧ r1.1 ≤ 1 then some (r1.1, r1.2) else none :=
  (zcall_eq rfl).trans (zunr_eq w zc_X12_isShelf [] (d + 1) 307 rfl 56 _ _ _ _).symm
set_option maxRecDepth 100000 in
theorem eX12_row (w : zW) (d : Nat) (x1 x2 x3 : Int) (σ : zMem) : zcall w (d + 1) 308 [zA 13 32 209, zI x1, zI x2, zI x3] σ =
  (zcall w d 307 [zI x1] σ).bind fun r1 => if r1.1 = 0 then (zcall w d 214 [zA 13 32 209, zI (-62)] r1.2).bind fun r2 => some (r2.1, r2.2) else (zcall w d 213 [zJ x2, zJ 0, zJ 4] r1.2).bind fun r3 => if r3.1 = 0 then (zcall w d 214 [zA 13 32 209, zI (-62)] r3.2).bind fun r4 => some (r4.1, r4.2) else (zcall w d 213 [zJ x3, zJ 0, zJ 40] r3.2).bind fun r5 => if r5.1 = 0 then (zcall w d 214 [zA 13 32 209, zI (-62)] r5.2).bind fun r6 => some (r6.1, r6.2) else if (0 : Int) ≤ x1 ∧ x1 < 8 then if (0 : Int) ≤ x1 ∧ x1 < 8 then zden w (d + 1) 308 31 [zA 13 32 209, zI x1, zI x2, zI x3, zI 0] [] (zup (zup r5.2 226 x1 x2) 227 x1 x3) else none else none :=
  (zcall_eq rfl).trans (zunr_eq w zc_X12_row [31] (d + 1) 308 rfl 97 _ _ _ _).symm
set_option maxRecDepth 100000 in
theorem hX12_row_31 (w : zW) (d : Nat) (x1 x4 : Int) (v2 v3 : zV) (σ : zMem) : zden w (d + 1) 308 31 [zA 13 32 209, zI x1, v2, v3, zI x4] [] σ =
  if x4 < 40 then if (0 : Int) ≤ (zar 0 (zar 2 40 x1) x4) ∧ (zar 0 (zar 2 40 x1) x4) < 320 then zden w (d + 1) 308 31 [zA 13 32 209, zI x1, v2, (zlng 0 v3), zI (zar 0 x4 1)] [] (zup σ 228 (zar 0 (zar 2 40 x1) x4) 0) else none else some (1, σ) :=
  (zunr_eq w zc_X12_row [31] (d + 1) 308 rfl 97 _ _ _ _).symm
set_option maxRecDepth 100000 in
theorem eX12_lowest_ (w : zW) (d : Nat) (x1 x2 : Int) (σ : zMem) : zcall w d 309 [zI x1, zJ x2] σ =
  if x1 = 0 then some (zar 24 (zar 23 x2 0) 0, σ) else if x1 = 1 then some (zar 25 (zar 23 x2 0) 0, σ) else if x1 = 2 then some (zar 23 x2 0, σ) else if x1 = 3 then some (x2, σ) else if (zar 22 x2 0) = 0 then some (0, σ) else some (1, σ) :=
  (zcall_eq rfl).trans (zunr_eq w zc_X12_lowest_ [] d 309 rfl 76 _ _ _ _).symm
set_option maxRecDepth 100000 in
theorem eX12_set (w : zW) (d : Nat) (x1 x2 x3 : Int) (σ : zMem) : zcall w (d + 1) 310 [zA 13 32 209, zI x1, zI x2, zJ x3] σ =
  (zcall w d 307 [zI x1] σ).bind fun r1 => if r1.1 = 0 then (zcall w d 214 [zA 13 32 209, zI (-62)] r1.2).bind fun r2 => some (r2.1, r2.2) else if (0 : Int) ≤ x1 ∧ x1 < 8 then if 4 < (r1.2 226 x1) then (zcall w d 214 [zA 13 32 209, zI (-63)] r1.2).bind fun r3 => some (r3.1, r3.2) else if (0 : Int) ≤ x1 ∧ x1 < 8 then if (r1.2 226 x1) < 0 then (zcall w d 214 [zA 13 32 209, zI (-64)] r1.2).bind fun r4 => some (r4.1, r4.2) else if (0 : Int) ≤ x1 ∧ x1 < 8 then (zcall w d 213 [zJ x2, zJ 0, zJ (zar 1 (r1.2 227 x1) 1)] r1.2).bind fun r5 => if r5.1 = 0 then (zcall w d 214 [zA 13 32 209, zI (-62)] r5.2).bind fun r6 => some (r6.1, r6.2) else if (0 : Int) ≤ x1 ∧ x1 < 8 then (zcall w d 309 [zI (r5.2 226 x1), zJ x3] r5.2).bind fun r7 => if (0 : Int) ≤ (zar 0 (zar 2 40 x1) x2) ∧ (zar 0 (zar 2 40 x1) x2) < 320 then some (1, zup r7.2 228 (zar 0 (zar 2 40 x1) x2) r7.1) else none else none else none else none else none :=
  (zcall_eq rfl).trans (zunr_eq w zc_X12_set [] (d + 1) 310 rfl 108 _ _ _ _).symm
set_option maxRecDepth 100000 in
theorem eX12_copy (w : zW) (d : Nat) (x1 x2 x3 x4 x5 : Int) (σ : zMem) : zcall w (d + 1) 311 [zA 13 32 209, zI x1, zI x2, zI x3, zI x4, zI x5] σ =
  (zcall w d 307 [zI x1] σ).bind fun r1 => if r1.1 = 0 then (zcall w d 214 [zA 13 32 209, zI (-62)] r1.2).bind fun r2 => some (r2.1, r2.2) else (zcall w d 307 [zI x2] r1.2).bind fun r3 => if r3.1 = 0 then (zcall w d 214 [zA 13 32 209, zI (-62)] r3.2).bind fun r4 => some (r4.1, r4.2) else if (0 : Int) ≤ x1 ∧ x1 < 8 then if 4 < (r3.2 226 x1) then (zcall w d 214 [zA 13 32 209, zI (-63)] r3.2).bind fun r5 => some (r5.1, r5.2) else if (0 : Int) ≤ x2 ∧ x2 < 8 then if 4 < (r3.2 226 x2) then (zcall w d 214 [zA 13 32 209, zI (-63)] r3.2).bind fun r6 => some (r6.1, r6.2) else if (0 : Int) ≤ x1 ∧ x1 < 8 then if (r3.2 226 x1) < 0 then if (0 : Int) ≤ x1 ∧ x1 < 8 then if (r3.2 226 x1) < 0 then (zcall w d 214 [zA 13 32 209, zI (-64)] r3.2).bind fun r7 => some (r7.1, r7.2) else if (0 : Int) ≤ x2 ∧ x2 < 8 then if (r3.2 226 x2) < 0 then (zcall w d 214 [zA 13 32 209, zI (-64)] r3.2).bind fun r8 => some (r8.1, r8.2) else if x3 < 0 then (zcall w d 214 [zA 13 32 209, zI (-62)] r3.2).bind fun r9 => some (r9.1, r9.2) else if x4 < 0 then (zcall w d 214 [zA 13 32 209, zI (-62)] r3.2).bind fun r10 => some (r10.1, r10.2) else if x5 < 0 then (zcall w d 214 [zA 13 32 209, zI (-62)] r3.2).bind fun r11 => some (r11.1, r11.2) else if (0 : Int) ≤ x1 ∧ x1 < 8 then if (r3.2 227 x1) < x3 then (zcall w d 214 [zA 13 32 209, zI (-62)] r3.2).bind fun r12 => some (r12.1, r12.2) else if (0 : Int) ≤ x2 ∧ x2 < 8 then if (r3.2 227 x2) < x4 then (zcall w d 214 [zA 13 32 209, zI (-62)] r3.2).bind fun r13 => some (r13.1, r13.2) else if (0 : Int) ≤ x1 ∧ x1 < 8 then if (zar 1 (r3.2 227 x1) x3) < x5 then (zcall w d 214 [zA 13 32 209, zI (-62)] r3.2).bind fun r14 => some (r14.1, r14.2) else if (0 : Int) ≤ x2 ∧ x2 < 8 then if (zar 1 (r3.2 227 x2) x4) < x5 then (zcall w d 214 [zA 13 32 209, zI (-62)] r3.2).bind fun r15 => some (r15.1, r15.2) else zden w (d + 1) 311 99 [zA 13 32 209, zI x1, zI x2, zI x3, zI x4, zI x5, zI 0, zU] [] r3.2 else none else none else none else none else none else none else if (0 : Int) ≤ x2 ∧ x2 < 8 then if (r3.2 226 x2) < 0 then if (0 : Int) ≤ x1 ∧ x1 < 8 then if (r3.2 226 x1) < 0 then (zcall w d 214 [zA 13 32 209, zI (-64)] r3.2).bind fun r16 => some (r16.1, r16.2) else if (0 : Int) ≤ x2 ∧ x2 < 8 then if (r3.2 226 x2) < 0 then (zcall w d 214 [zA 13 32 209, zI (-64)] r3.2).bind fun r17 => some (r17.1, r17.2) else if x3 < 0 then (zcall w d 214 [zA 13 32 209, zI (-62)] r3.2).bind fun r18 => some (r18.1, r18.2) else if x4 < 0 then (zcall w d 214 [zA 13 32 209, zI (-62)] r3.2).bind fun r19 => some (r19.1, r19.2) else if x5 < 0 then (zcall w d 214 [zA 13 32 209, zI (-62)] r3.2).bind fun r20 => some (r20.1, r20.2) else if (0 : Int) ≤ x1 ∧ x1 < 8 then if (r3.2 227 x1) < x3 then (zcall w d 214 [zA 13 32 209, zI (-62)] r3.2).bind fun r21 => some (r21.1, r21.2) else if (0 : Int) ≤ x2 ∧ x2 < 8 then if (r3.2 227 x2) < x4 then (zcall w d 214 [zA 13 32 209, zI (-62)] r3.2).bind fun r22 => some (r22.1, r22.2) else if (0 : Int) ≤ x1 ∧ x1 < 8 then if (zar 1 (r3.2 227 x1) x3) < x5 then (zcall w d 214 [zA 13 32 209, zI (-62)] r3.2).bind fun r23 => some (r23.1, r23.2) else if (0 : Int) ≤ x2 ∧ x2 < 8 then if (zar 1 (r3.2 227 x2) x4) < x5 then (zcall w d 214 [zA 13 32 209, zI (-62)] r3.2).bind fun r24 => some (r24.1, r24.2) else zden w (d + 1) 311 99 [zA 13 32 209, zI x1, zI x2, zI x3, zI x4, zI x5, zI 0, zU] [] r3.2 else none else none else none else none else none else none else if (0 : Int) ≤ x1 ∧ x1 < 8 then if (0 : Int) ≤ x2 ∧ x2 < 8 then if (r3.2 226 x1) = (r3.2 226 x2) then if (0 : Int) ≤ x1 ∧ x1 < 8 then if (r3.2 226 x1) < 0 then (zcall w d 214 [zA 13 32 209, zI (-64)] r3.2).bind fun r25 => some (r25.1, r25.2) else if (0 : Int) ≤ x2 ∧ x2 < 8 then if (r3.2 226 x2) < 0 then (zcall w d 214 [zA 13 32 209, zI (-64)] r3.2).bind fun r26 => some (r26.1, r26.2) else if x3 < 0 then (zcall w d 214 [zA 13 32 209, zI (-62)] r3.2).bind fun r27 => some (r27.1, r27.2) else if x4 < 0 then (zcall w d 214 [zA 13 32 209, zI (-62)] r3.2).bind fun r28 => some (r28.1, r28.2) else if x5 < 0 then (zcall w d 214 [zA 13 32 209, zI (-62)] r3.2).bind fun r29 => some (r29.1, r29.2) else if (0 : Int) ≤ x1 ∧ x1 < 8 then if (r3.2 227 x1) < x3 then (zcall w d 214 [zA 13 32 209, zI (-62)] r3.2).bind fun r30 => some (r30.1, r30.2) else if (0 : Int) ≤ x2 ∧ x2 < 8 then if (r3.2 227 x2) < x4 then (zcall w d 214 [zA 13 32 209, zI (-62)] r3.2).bind fun r31 => some (r31.1, r31.2) else if (0 : Int) ≤ x1 ∧ x1 < 8 then if (zar 1 (r3.2 227 x1) x3) < x5 then (zcall w d 214 [zA 13 32 209, zI (-62)] r3.2).bind fun r32 => some (r32.1, r32.2) else if (0 : Int) ≤ x2 ∧ x2 < 8 then if (zar 1 (r3.2 227 x2) x4) < x5 then (zcall w d 214 [zA 13 32 209, zI (-62)] r3.2).bind fun r33 => some (r33.1, r33.2) else zden w (d + 1) 311 99 [zA 13 32 209, zI x1, zI x2, zI x3, zI x4, zI x5, zI 0, zU] [] r3.2 else none else none else none else none else none else none else (zcall w d 214 [zA 13 32 209, zI (-63)] r3.2).bind fun r34 => some (r34.1, r34.2) else none else none else none else none else none else none :=
  (zcall_eq rfl).trans (zunr_eq w zc_X12_copy [99] (d + 1) 311 rfl 187 _ _ _ _).symm
set_option maxRecDepth 100000 in
theorem hX12_copy_99 (w : zW) (d : Nat) (x1 x2 x3 x4 x5 x6 : Int) (v7 : zV) (σ : zMem) : zden w (d + 1) 311 99 [zA 13 32 209, zI x1, zI x2, zI x3, zI x4, zI x5, zI x6, v7] [] σ =
  if x6 < x5 then if x3 < x4 then if (0 : Int) ≤ (zar 0 (zar 0 (zar 2 40 x1) x3) (zar 1 (zar 1 x5 1) x6)) ∧ (zar 0 (zar 0 (zar 2 40 x1) x3) (zar 1 (zar 1 x5 1) x6)) < 320 then if (0 : Int) ≤ (zar 0 (zar 0 (zar 2 40 x2) x4) (zar 1 (zar 1 x5 1) x6)) ∧ (zar 0 (zar 0 (zar 2 40 x2) x4) (zar 1 (zar 1 x5 1) x6)) < 320 then zden w (d + 1) 311 99 [zA 13 32 209, zI x1, zI x2, zI x3, zI x4, zI x5, zI (zar 0 x6 1), zI (zar 1 (zar 1 x5 1) x6)] [] (zup σ 228 (zar 0 (zar 0 (zar 2 40 x2) x4) (zar 1 (zar 1 x5 1) x6)) (σ 228 (zar 0 (zar 0 (zar 2 40 x1) x3) (zar 1 (zar 1 x5 1) x6)))) else none else none else if (0 : Int) ≤ (zar 0 (zar 0 (zar 2 40 x1) x3) x6) ∧ (zar 0 (zar 0 (zar 2 40 x1) x3) x6) < 320 then if (0 : Int) ≤ (zar 0 (zar 0 (zar 2 40 x2) x4) x6) ∧ (zar 0 (zar 0 (zar 2 40 x2) x4) x6) < 320 then zden w (d + 1) 311 99 [zA 13 32 209, zI x1, zI x2, zI x3, zI x4, zI x5, zI (zar 0 x6 1), zI x6] [] (zup σ 228 (zar 0 (zar 0 (zar 2 40 x2) x4) x6) (σ 228 (zar 0 (zar 0 (zar 2 40 x1) x3) x6))) else none else none else some (x5, σ) :=
  (zunr_eq w zc_X12_copy [99] (d + 1) 311 rfl 187 _ _ _ _).symm
set_option maxRecDepth 100000 in
theorem eX12_element (w : zW) (d : Nat) (x1 x2 : Int) (σ : zMem) : zcall w (d + 1) 312 [zA 13 32 209, zI x1, zI x2] σ =
  (zcall w d 307 [zI x1] σ).bind fun r1 => if r1.1 = 0 then some (0, r1.2) else if (0 : Int) ≤ x1 ∧ x1 < 8 then (zcall w d 213 [zJ (r1.2 226 x1), zJ 0, zJ 4] r1.2).bind fun r2 => if r2.1 = 0 then some (0, r2.2) else if (0 : Int) ≤ x1 ∧ x1 < 8 then (zcall w d 213 [zJ x2, zJ 0, zJ (zar 1 (r2.2 227 x1) 1)] r2.2).bind fun r3 => if r3.1 = 0 then some (0, r3.2) else if (0 : Int) ≤ (zar 0 (zar 2 40 x1) x2) ∧ (zar 0 (zar 2 40 x1) x2) < 320 then some (r3.2 228 (zar 0 (zar 2 40 x1) x2), r3.2) else none else none else none :=
  (zcall_eq rfl).trans (zunr_eq w zc_X12_element [] (d + 1) 312 rfl 85 _ _ _ _).symm
set_option maxRecDepth 100000 in
theorem eX12_holds (w : zW) (d : Nat) (x1 : Int) (σ : zMem) : zcall w (d + 1) 313 [zA 13 32 209, zI x1] σ =
  (zcall w d 307 [zI x1] σ).bind fun r1 => if r1.1 = 0 then some (-1, r1.2) else if (0 : Int) ≤ x1 ∧ x1 < 8 then some (r1.2 226 x1, r1.2) else none :=
  (zcall_eq rfl).trans (zunr_eq w zc_X12_holds [] (d + 1) 313 rfl 60 _ _ _ _).symm
set_option maxRecDepth 100000 in
theorem eX12_show (w : zW) (d : Nat) (x1 x2 : Int) (σ : zMem) : zcall w (d + 1) 314 [zA 13 32 209, zI x1, zI x2] σ =
  (zcall w d 307 [zI x1] σ).bind fun r1 => if r1.1 = 0 then (zcall w d 214 [zA 13 32 209, zI (-62)] r1.2).bind fun r2 => some (r2.1, r2.2) else if x2 = (-1) then if x2 = (-1) then if (0 : Int) ≤ x1 ∧ x1 < 8 then some (1, zup r1.2 226 x1 (-1)) else none else if (0 : Int) ≤ x1 ∧ x1 < 8 then some (1, zup r1.2 226 x1 (zar 0 10 x2)) else none else (zcall w d 218 [zA 13 32 209, zI x2] r1.2).bind fun r3 => if r3.1 = 0 then (zcall w d 214 [zA 13 32 209, zI (-62)] r3.2).bind fun r4 => some (r4.1, r4.2) else if x2 = (-1) then if (0 : Int) ≤ x1 ∧ x1 < 8 then some (1, zup r3.2 226 x1 (-1)) else none else if (0 : Int) ≤ x1 ∧ x1 < 8 then some (1, zup r3.2 226 x1 (zar 0 10 x2)) else none :=
  (zcall_eq rfl).trans (zunr_eq w zc_X12_show [] (d + 1) 314 rfl 78 _ _ _ _).symm
set_option maxRecDepth 100000 in
theorem eX12_isUnder (w : zW) (d : Nat) (x1 x2 : Int) (σ : zMem) : zcall w (d + 1) 315 [zI x1, zI x2] σ =
  if x2 = 0 then some (1, σ) else if x1 = x2 then some (1, σ) else if x2 = 1 then if 5 < x1 then if x2 = 2 then if x1 < 8 then if x2 = 6 then (zcall w d 213 [zJ x1, zJ 8, zJ 11] σ).bind fun r1 => if r1.1 = 0 then if x2 = 7 then if x1 < 12 then if x2 = 16 then if x1 = 17 then some (1, r1.2) else some (0, r1.2) else some (0, r1.2) else some (1, r1.2) else if x2 = 16 then if x1 = 17 then some (1, r1.2) else some (0, r1.2) else some (0, r1.2) else some (1, r1.2) else if x2 = 7 then if x1 < 12 then if x2 = 16 then if x1 = 17 then some (1, σ) else some (0, σ) else some (0, σ) else some (1, σ) else if x2 = 16 then if x1 = 17 then some (1, σ) else some (0, σ) else some (0, σ) else some (1, σ) else if x2 = 6 then (zcall w d 213 [zJ x1, zJ 8, zJ 11] σ).bind fun r2 => if r2.1 = 0 then if x2 = 7 then if x1 < 12 then if x2 = 16 then if x1 = 17 then some (1, r2.2) else some (0, r2.2) else some (0, r2.2) else some (1, r2.2) else if x2 = 16 then if x1 = 17 then some (1, r2.2) else some (0, r2.2) else some (0, r2.2) else some (1, r2.2) else if x2 = 7 then if x1 < 12 then if x2 = 16 then if x1 = 17 then some (1, σ) else some (0, σ) else some (0, σ) else some (1, σ) else if x2 = 16 then if x1 = 17 then some (1, σ) else some (0, σ) else some (0, σ) else some (1, σ) else if x2 = 2 then if x1 < 8 then if x2 = 6 then (zcall w d 213 [zJ x1, zJ 8, zJ 11] σ).bind fun r3 => if r3.1 = 0 then if x2 = 7 then if x1 < 12 then if x2 = 16 then if x1 = 17 then some (1, r3.2) else some (0, r3.2) else some (0, r3.2) else some (1, r3.2) else if x2 = 16 then if x1 = 17 then some (1, r3.2) else some (0, r3.2) else some (0, r3.2) else some (1, r3.2) else if x2 = 7 then if x1 < 12 then if x2 = 16 then if x1 = 17 then some (1, σ) else some (0, σ) else some (0, σ) else some (1, σ) else if x2 = 16 then if x1 = 17 then some (1, σ) else some (0, σ) else some (0, σ) else some (1, σ) else if x2 = 6 then (zcall w d 213 [zJ x1, zJ 8, zJ 11] σ).bind fun r4 => if r4.1 = 0 then if x2 = 7 then if x1 < 12 then if x2 = 16 then if x1 = 17 then some (1, r4.2) else some (0, r4.2) else some (0, r4.2) else some (1, r4.2) else if x2 = 16 then if x1 = 17 then some (1, r4.2) else some (0, r4.2) else some (0, r4.2) else some (1, r4.2) else if x2 = 7 then if x1 < 12 then if x2 = 16 then if x1 = 17 then some (1, σ) else some (0, σ) else some (0, σ) else some (1, σ) else if x2 = 16 then if x1 = 17 then some (1, σ) else some (0, σ) else some (0, σ) :=
  (zcall_eq rfl).trans (zunr_eq w zc_X12_isUnder [] (d + 1) 315 rfl 92 _ _ _ _).symm
set_option maxRecDepth 100000 in
theorem eX12_wholePlaces (w : zW) (d : Nat) (x1 : Int) (σ : zMem) : zcall w (d + 1) 316 [zA 13 32 209, zI x1] σ =
  zden w (d + 1) 316 4 [zA 13 32 209, zI x1, zI 1, zI 0] [] σ :=
  (zcall_eq rfl).trans (zunr_eq w zc_X12_wholePlaces [4] (d + 1) 316 rfl 77 _ _ _ _).symm
set_option maxRecDepth 100000 in
theorem hX12_wholePlaces_4 (w : zW) (d : Nat) (x1 x2 x3 : Int) (σ : zMem) : zden w (d + 1) 316 4 [zA 13 32 209, zI x1, zI x2, zI x3] [] σ =
  if x3 < 3 then (zcall w d 217 [zA 13 32 209, zI x1, zI (zar 0 3 x3)] σ).bind fun r1 => (zcall w d 217 [zA 13 32 209, zI x1, zI x3] r1.2).bind fun r2 => zden w (d + 1) 316 4 [zA 13 32 209, zI x1, zI (zar 2 x2 (zar 0 (zar 1 r1.1 r2.1) 1)), zI (zar 0 x3 1)] [] r2.2 else some (x2, σ) :=
  (zunr_eq w zc_X12_wholePlaces [4] (d + 1) 316 rfl 77 _ _ _ _).symm
set_option maxRecDepth 100000 in
theorem eX12_says (w : zW) (d : Nat) (x1 x2 : Int) (σ : zMem) : zcall w (d + 1) 317 [zA 13 32 209, zI x1, zI x2] σ =
  (zcall w d 307 [zI x1] σ).bind fun r1 => if r1.1 = 0 then (zcall w d 214 [zA 13 32 209, zI (-62)] r1.2).bind fun r2 => some (r2.1, r2.2) else (zcall w d 213 [zJ x2, zJ 0, zJ 17] r1.2).bind fun r3 => if r3.1 = 0 then (zcall w d 214 [zA 13 32 209, zI (-62)] r3.2).bind fun r4 => some (r4.1, r4.2) else if (0 : Int) ≤ x1 ∧ x1 < 8 then (zcall w d 213 [zJ (r3.2 226 x1), zJ 0, zJ 4] r3.2).bind fun r5 => if r5.1 = 0 then if (0 : Int) ≤ x1 ∧ x1 < 8 then if (r5.2 226 x1) < 0 then (zcall w d 214 [zA 13 32 209, zI (-64)] r5.2).bind fun r6 => some (r6.1, r6.2) else if (0 : Int) ≤ x1 ∧ x1 < 8 then (zcall w d 216 [zA 13 32 209, zI (zar 1 (r5.2 226 x1) 10), zI 0] r5.2).bind fun r7 => (zcall w d 315 [zI r7.1, zI x2] r7.2).bind fun r8 => if r8.1 = 0 then (zcall w d 214 [zA 13 32 209, zI (-63)] r8.2).bind fun r9 => some (r9.1, r9.2) else (zcall w d 318 [zA 13 32 209, zI (zar 1 (r5.2 226 x1) 10), zI x2] r8.2).bind fun r10 => some (r10.1, r10.2) else none else none else (zcall w d 214 [zA 13 32 209, zI (-63)] r5.2).bind fun r11 => some (r11.1, r11.2) else none :=
  (zcall_eq rfl).trans (zunr_eq w zc_X12_says [] (d + 1) 317 rfl 108 _ _ _ _).symm
set_option maxRecDepth 100000 in
theorem eX12_saysOf (w : zW) (d : Nat) (x1 x2 : Int) (σ : zMem) : zcall w (d + 1) 318 [zA 13 32 209, zI x1, zI x2] σ =
  (zcall w d 216 [zA 13 32 209, zI x1, zI 1] σ).bind fun r1 => (zcall w d 216 [zA 13 32 209, zI x1, zI 2] r1.2).bind fun r2 => if x2 = 0 then zden w (d + 1) 318 12 [zA 13 32 209, zI x1, zI x2, zI r1.1, zI r2.1] [] r2.2 else if x2 = 1 then zden w (d + 1) 318 17 [zA 13 32 209, zI x1, zI x2, zI r1.1, zI r2.1] [] r2.2 else if x2 = 2 then zden w (d + 1) 318 22 [zA 13 32 209, zI x1, zI x2, zI r1.1, zI r2.1] [] r2.2 else if x2 = 3 then zden w (d + 1) 318 24 [zA 13 32 209, zI x1, zI x2, zI r1.1, zI r2.1] [] r2.2 else if x2 = 4 then zden w (d + 1) 318 29 [zA 13 32 209, zI x1, zI x2, zI r1.1, zI r2.1] [] r2.2 else if x2 = 5 then zden w (d + 1) 318 24 [zA 13 32 209, zI x1, zI x2, zI r1.1, zI r2.1] [] r2.2 else if x2 = 6 then zden w (d + 1) 318 33 [zA 13 32 209, zI x1, zI x2, zI r1.1, zI r2.1] [] r2.2 else if x2 = 7 then zden w (d + 1) 318 35 [zA 13 32 209, zI x1, zI x2, zI r1.1, zI r2.1] [] r2.2 else if x2 = 8 then zden w (d + 1) 318 45 [zA 13 32 209, zI x1, zI x2, zI r1.1, zI r2.1] [] r2.2 else if x2 = 9 then zden w (d + 1) 318 45 [zA 13 32 209, zI x1, zI x2, zI r1.1, zI r2.1] [] r2.2 else if x2 = 10 then zden w (d + 1) 318 62 [zA 13 32 209, zI x1, zI x2, zI r1.1, zI r2.1] [] r2.2 else if x2 = 11 then zden w (d + 1) 318 67 [zA 13 32 209, zI x1, zI x2, zI r1.1, zI r2.1] [] r2.2 else if x2 = 12 then zden w (d + 1) 318 79 [zA 13 32 209, zI x1, zI x2, zI r1.1, zI r2.1] [] r2.2 else if x2 = 13 then zden w (d + 1) 318 94 [zA 13 32 209, zI x1, zI x2, zI r1.1, zI r2.1] [] r2.2 else if x2 = 14 then zden w (d + 1) 318 94 [zA 13 32 209, zI x1, zI x2, zI r1.1, zI r2.1] [] r2.2 else if x2 = 15 then zden w (d + 1) 318 99 [zA 13 32 209, zI x1, zI x2, zI r1.1, zI r2.1] [] r2.2 else zden w (d + 1) 318 111 [zA 13 32 209, zI x1, zI x2, zI r1.1, zI r2.1] [] r2.2 :=
  (zcall_eq rfl).trans (zunr_eq w zc_X12_saysOf [12, 17, 22, 24, 29, 33, 35, 45, 62, 67, 79, 94, 99, 111] (d + 1) 318 rfl 166 _ _ _ _).symm
set_option maxRecDepth 100000 in
theorem hX12_saysOf_12 (w : zW) (d : Nat) (x1 : Int) (v2 v3 v4 : zV) (σ : zMem) : zden w (d + 1) 318 12 [zA 13 32 209, zI x1, v2, v3, v4] [] σ =
  (zcall w d 216 [zA 13 32 209, zI x1, zI 3] σ).bind fun r1 => some (r1.1, r1.2) :=
  (zunr_eq w zc_X12_saysOf [12, 17, 22, 24, 29, 33, 35, 45, 62, 67, 79, 94, 99, 111] (d + 1) 318 rfl 166 _ _ _ _).symm
set_option maxRecDepth 100000 in
theorem hX12_saysOf_17 (w : zW) (d : Nat) (x1 : Int) (v2 v3 v4 : zV) (σ : zMem) : zden w (d + 1) 318 17 [zA 13 32 209, zI x1, v2, v3, v4] [] σ =
  (zcall w d 249 [zA 13 32 209, zI 0, zI x1] σ).bind fun r1 => some (r1.1, r1.2) :=
  (zunr_eq w zc_X12_saysOf [12, 17, 22, 24, 29, 33, 35, 45, 62, 67, 79, 94, 99, 111] (d + 1) 318 rfl 166 _ _ _ _).symm
set_option maxRecDepth 100000 in
theorem hX12_saysOf_22 (w : zW) (d : Nat) (x3 : Int) (v0 v1 v2 v4 : zV) (σ : zMem) : zden w (d + 1) 318 22 [v0, v1, v2, zI x3, v4] [] σ =
  some (x3, σ) :=
  (zunr_eq w zc_X12_saysOf [12, 17, 22, 24, 29, 33, 35, 45, 62, 67, 79, 94, 99, 111] (d + 1) 318 rfl 166 _ _ _ _).symm
set_option maxRecDepth 100000 in
theorem hX12_saysOf_24 (w : zW) (d : Nat) (x1 : Int) (v2 v3 v4 : zV) (σ : zMem) : zden w (d + 1) 318 24 [zA 13 32 209, zI x1, v2, v3, v4] [] σ =
  (zcall w d 217 [zA 13 32 209, zI x1, zI 3] σ).bind fun r1 => some (r1.1, r1.2) :=
  (zunr_eq w zc_X12_saysOf [12, 17, 22, 24, 29, 33, 35, 45, 62, 67, 79, 94, 99, 111] (d + 1) 318 rfl 166 _ _ _ _).symm
set_option maxRecDepth 100000 in
theorem hX12_saysOf_29 (w : zW) (d : Nat) (x1 : Int) (v2 v3 v4 : zV) (σ : zMem) : zden w (d + 1) 318 29 [zA 13 32 209, zI x1, v2, v3, v4] [] σ =
  (zcall w d 316 [zA 13 32 209, zI x1] σ).bind fun r1 => some (r1.1, r1.2) :=
  (zunr_eq w zc_X12_saysOf [12, 17, 22, 24, 29, 33, 35, 45, 62, 67, 79, 94, 99, 111] (d + 1) 318 rfl 166 _ _ _ _).symm
set_option maxRecDepth 100000 in
theorem hX12_saysOf_33 (w : zW) (d : Nat) (x4 : Int) (v0 v1 v2 v3 : zV) (σ : zMem) : zden w (d + 1) 318 33 [v0, v1, v2, v3, zI x4] [] σ =
  some (x4, σ) :=
  (zunr_eq w zc_X12_saysOf [12, 17, 22, 24, 29, 33, 35, 45, 62, 67, 79, 94, 99, 111] (d + 1) 318 rfl 166 _ _ _ _).symm
set_option maxRecDepth 100000 in
theorem hX12_saysOf_35 (w : zW) (d : Nat) (x1 x3 : Int) (v2 v4 : zV) (σ : zMem) : zden w (d + 1) 318 35 [zA 13 32 209, zI x1, v2, zI x3, v4] [] σ =
  (zcall w d 249 [zA 13 32 209, zI 0, zI x1] σ).bind fun r1 => (zcall w d 249 [zA 13 32 209, zI 0, zI x3] r1.2).bind fun r2 => some (zar 1 r1.1 r2.1, r2.2) :=
  (zunr_eq w zc_X12_saysOf [12, 17, 22, 24, 29, 33, 35, 45, 62, 67, 79, 94, 99, 111] (d + 1) 318 rfl 166 _ _ _ _).symm
set_option maxRecDepth 100000 in
theorem hX12_saysOf_45 (w : zW) (d : Nat) (x3 x4 : Int) (v1 v2 : zV) (σ : zMem) : zden w (d + 1) 318 45 [zA 13 32 209, v1, v2, zI x3, zI x4] [] σ =
  (zcall w d 249 [zA 13 32 209, zI 2, zI x3] σ).bind fun r1 => (zcall w d 249 [zA 13 32 209, zI 3, zI x4] r1.2).bind fun r2 => (zcall w d 264 [zA 13 32 209, zI x3, zI x4] r2.2).bind fun r3 => some (zar 1 (zar 0 r1.1 r2.1) (zar 2 2 r3.1), r3.2) :=
  (zunr_eq w zc_X12_saysOf [12, 17, 22, 24, 29, 33, 35, 45, 62, 67, 79, 94, 99, 111] (d + 1) 318 rfl 166 _ _ _ _).symm
set_option maxRecDepth 100000 in
theorem hX12_saysOf_62 (w : zW) (d : Nat) (x3 x4 : Int) (v1 v2 : zV) (σ : zMem) : zden w (d + 1) 318 62 [zA 13 32 209, v1, v2, zI x3, zI x4] [] σ =
  (zcall w d 264 [zA 13 32 209, zI x3, zI x4] σ).bind fun r1 => some (r1.1, r1.2) :=
  (zunr_eq w zc_X12_saysOf [12, 17, 22, 24, 29, 33, 35, 45, 62, 67, 79, 94, 99, 111] (d + 1) 318 rfl 166 _ _ _ _).symm
set_option maxRecDepth 100000 in
theorem hX12_saysOf_67 (w : zW) (d : Nat) (x1 : Int) (v2 v3 v4 : zV) (σ : zMem) : zden w (d + 1) 318 67 [zA 13 32 209, zI x1, v2, v3, v4] [] σ =
  (zcall w d 217 [zA 13 32 209, zI x1, zI 0] σ).bind fun r1 => (zcall w d 217 [zA 13 32 209, zI x1, zI 1] r1.2).bind fun r2 => some (zar 0 (zar 2 10 r1.1) r2.1, r2.2) :=
  (zunr_eq w zc_X12_saysOf [12, 17, 22, 24, 29, 33, 35, 45, 62, 67, 79, 94, 99, 111] (d + 1) 318 rfl 166 _ _ _ _).symm
set_option maxRecDepth 100000 in
theorem hX12_saysOf_79 (w : zW) (d : Nat) (x1 : Int) (v2 v3 v4 : zV) (σ : zMem) : zden w (d + 1) 318 79 [zA 13 32 209, zI x1, v2, v3, v4] [] σ =
  (zcall w d 217 [zA 13 32 209, zI x1, zI 0] σ).bind fun r1 => (zcall w d 217 [zA 13 32 209, zI x1, zI 1] r1.2).bind fun r2 => (zcall w d 217 [zA 13 32 209, zI x1, zI 2] r2.2).bind fun r3 => some (zar 0 (zar 0 r1.1 r2.1) r3.1, r3.2) :=
  (zunr_eq w zc_X12_saysOf [12, 17, 22, 24, 29, 33, 35, 45, 62, 67, 79, 94, 99, 111] (d + 1) 318 rfl 166 _ _ _ _).symm
set_option maxRecDepth 100000 in
theorem hX12_saysOf_94 (w : zW) (d : Nat) (x1 : Int) (v2 v3 v4 : zV) (σ : zMem) : zden w (d + 1) 318 94 [zA 13 32 209, zI x1, v2, v3, v4] [] σ =
  (zcall w d 217 [zA 13 32 209, zI x1, zI 1] σ).bind fun r1 => some (r1.1, r1.2) :=
  (zunr_eq w zc_X12_saysOf [12, 17, 22, 24, 29, 33, 35, 45, 62, 67, 79, 94, 99, 111] (d + 1) 318 rfl 166 _ _ _ _).symm
set_option maxRecDepth 100000 in
theorem hX12_saysOf_99 (w : zW) (d : Nat) (x1 : Int) (v2 v3 v4 : zV) (σ : zMem) : zden w (d + 1) 318 99 [zA 13 32 209, zI x1, v2, v3, v4] [] σ =
  (zcall w d 217 [zA 13 32 209, zI x1, zI 0] σ).bind fun r1 => (zcall w d 217 [zA 13 32 209, zI x1, zI 1] r1.2).bind fun r2 => some (zar 1 (zar 1 3 r1.1) r2.1, r2.2) :=
  (zunr_eq w zc_X12_saysOf [12, 17, 22, 24, 29, 33, 35, 45, 62, 67, 79, 94, 99, 111] (d + 1) 318 rfl 166 _ _ _ _).symm
set_option maxRecDepth 100000 in
theorem hX12_saysOf_111 (w : zW) (d : Nat) (x1 : Int) (v2 v3 v4 : zV) (σ : zMem) : zden w (d + 1) 318 111 [zA 13 32 209, zI x1, v2, v3, v4] [] σ =
  (zcall w d 217 [zA 13 32 209, zI x1, zI 0] σ).bind fun r1 => some (r1.1, r1.2) :=
  (zunr_eq w zc_X12_saysOf [12, 17, 22, 24, 29, 33, 35, 45, 62, 67, 79, 94, 99, 111] (d + 1) 318 rfl 166 _ _ _ _).symm
set_option maxRecDepth 100000 in
theorem eX12_isTold (w : zW) (d : Nat) (x1 x2 : Int) (σ : zMem) : zcall w (d + 1) 319 [zA 13 32 209, zI x1, zI x2] σ =
  if (0 : Int) ≤ x1 ∧ x1 < 8 then if 4 < (σ 226 x1) then some (-63, σ) else if (0 : Int) ≤ x1 ∧ x1 < 8 then if (σ 226 x1) < 0 then some (-64, σ) else if (0 : Int) ≤ x1 ∧ x1 < 8 then if (σ 227 x1) < (zar 2 2 x2) then some (-62, σ) else zden w (d + 1) 319 27 [zA 13 32 209, zI x1, zI x2, zI 0] [] σ else none else none else none :=
  (zcall_eq rfl).trans (zunr_eq w zc_X12_isTold [27] (d + 1) 319 rfl 116 _ _ _ _).symm
set_option maxRecDepth 100000 in
theorem hX12_isTold_27 (w : zW) (d : Nat) (x1 x2 x3 : Int) (σ : zMem) : zden w (d + 1) 319 27 [zA 13 32 209, zI x1, zI x2, zI x3] [] σ =
  if x3 < x2 then if (0 : Int) ≤ (zar 0 (zar 2 40 x1) (zar 2 2 x3)) ∧ (zar 0 (zar 2 40 x1) (zar 2 2 x3)) < 320 then (zcall w d 213 [zJ (σ 228 (zar 0 (zar 2 40 x1) (zar 2 2 x3))), zJ 0, zJ 4095] σ).bind fun r1 => if r1.1 = 0 then some (-65, r1.2) else if (0 : Int) ≤ (zar 0 (zar 0 (zar 2 40 x1) (zar 2 2 x3)) 1) ∧ (zar 0 (zar 0 (zar 2 40 x1) (zar 2 2 x3)) 1) < 320 then (zcall w d 213 [zJ (r1.2 228 (zar 0 (zar 0 (zar 2 40 x1) (zar 2 2 x3)) 1)), zJ 0, zJ 1] r1.2).bind fun r2 => if r2.1 = 0 then some (-65, r2.2) else zden w (d + 1) 319 27 [zA 13 32 209, zI x1, zI x2, zI (zar 0 x3 1)] [] r2.2 else none else none else some (0, σ) :=
  (zunr_eq w zc_X12_isTold [27] (d + 1) 319 rfl 116 _ _ _ _).symm
set_option maxRecDepth 100000 in
theorem eX12_isPaired (w : zW) (d : Nat) (x1 x2 x3 x4 : Int) (σ : zMem) : zcall w (d + 1) 320 [zA 13 32 209, zI x1, zI x2, zI x3, zI x4] σ =
  (zcall w d 243 [zI x4] σ).bind fun r1 => (zcall w d 244 [zI x4] r1.2).bind fun r2 => (zcall w d 245 [zI x4] r2.2).bind fun r3 => (zcall w d 219 [zA 13 32 209, zI x2, zI r1.1, zI r2.1, zI r3.1] r3.2).bind fun r4 => (zcall w d 243 [zI x4] r4.2).bind fun r5 => (zcall w d 244 [zI x4] r5.2).bind fun r6 => (zcall w d 245 [zI x4] r6.2).bind fun r7 => (zcall w d 219 [zA 13 32 209, zI x3, zI r5.1, zI r6.1, zI r7.1] r7.2).bind fun r8 => if x1 = 8 then if 0 < (zar 22 r4.1 0) then if 0 < (zar 22 r8.1 0) then some (0, r8.2) else some (1, r8.2) else some (1, r8.2) else if x1 = 9 then if 0 < (zar 22 r4.1 0) then some (0, r8.2) else if 0 < (zar 22 r8.1 0) then some (0, r8.2) else some (1, r8.2) else if 0 < (zar 22 r4.1 0) then some (0, r8.2) else if (zar 22 r8.1 0) < 0 then some (0, r8.2) else some (1, r8.2) :=
  (zcall_eq rfl).trans (zunr_eq w zc_X12_isPaired [] (d + 1) 320 rfl 112 _ _ _ _).symm
set_option maxRecDepth 100000 in
theorem eX12_kinds (w : zW) (d : Nat) (x1 x2 x3 x4 : Int) (σ : zMem) : zcall w (d + 1) 321 [zA 13 32 209, zI x1, zI x2, zI x3, zI x4] σ =
  (zcall w d 218 [zA 13 32 209, zI x1] σ).bind fun r1 => if r1.1 = 0 then (zcall w d 214 [zA 13 32 209, zI (-62)] r1.2).bind fun r2 => some (r2.1, r2.2) else (zcall w d 218 [zA 13 32 209, zI x2] r1.2).bind fun r3 => if r3.1 = 0 then (zcall w d 214 [zA 13 32 209, zI (-62)] r3.2).bind fun r4 => some (r4.1, r4.2) else (zcall w d 307 [zI x3] r3.2).bind fun r5 => if r5.1 = 0 then (zcall w d 214 [zA 13 32 209, zI (-62)] r5.2).bind fun r6 => some (r6.1, r6.2) else (zcall w d 213 [zJ x4, zJ 0, zJ 20] r5.2).bind fun r7 => if r7.1 = 0 then (zcall w d 214 [zA 13 32 209, zI (-62)] r7.2).bind fun r8 => some (r8.1, r8.2) else (zcall w d 319 [zA 13 32 209, zI x3, zI x4] r7.2).bind fun r9 => if r9.1 < 0 then (zcall w d 214 [zA 13 32 209, zI r9.1] r9.2).bind fun r10 => some (r10.1, r10.2) else zden w (d + 1) 321 36 [zA 13 32 209, zI x1, zI x2, zI x3, zI x4, zI r9.1, zI 0, zI 8, zU, zU] [] r9.2 :=
  (zcall_eq rfl).trans (zunr_eq w zc_X12_kinds [36, 43] (d + 1) 321 rfl 153 _ _ _ _).symm
set_option maxRecDepth 100000 in
theorem hX12_kinds_36 (w : zW) (d : Nat) (x1 x2 x3 x4 x6 x7 : Int) (v5 v8 v9 : zV) (σ : zMem) : zden w (d + 1) 321 36 [zA 13 32 209, zI x1, zI x2, zI x3, zI x4, v5, zI x6, zI x7, v8, v9] [] σ =
  if 10 < x7 then some (x6, σ) else zden w (d + 1) 321 43 [zA 13 32 209, zI x1, zI x2, zI x3, zI x4, v5, zI x6, zI x7, zI 1, zI 0] [] σ :=
  (zunr_eq w zc_X12_kinds [36, 43] (d + 1) 321 rfl 153 _ _ _ _).symm
set_option maxRecDepth 100000 in
theorem hX12_kinds_43 (w : zW) (d : Nat) (x1 x2 x3 x4 x6 x7 x8 x9 : Int) (v5 : zV) (σ : zMem) : zden w (d + 1) 321 43 [zA 13 32 209, zI x1, zI x2, zI x3, zI x4, v5, zI x6, zI x7, zI x8, zI x9] [] σ =
  if x9 < x4 then if (0 : Int) ≤ (zar 0 (zar 2 40 x3) (zar 2 2 x9)) ∧ (zar 0 (zar 2 40 x3) (zar 2 2 x9)) < 320 then (zcall w d 320 [zA 13 32 209, zI x7, zI x1, zI x2, zI (zar 23 (σ 228 (zar 0 (zar 2 40 x3) (zar 2 2 x9))) 0)] σ).bind fun r1 => if (0 : Int) ≤ (zar 0 (zar 0 (zar 2 40 x3) (zar 2 2 x9)) 1) ∧ (zar 0 (zar 0 (zar 2 40 x3) (zar 2 2 x9)) 1) < 320 then if (zar 22 (r1.2 228 (zar 0 (zar 0 (zar 2 40 x3) (zar 2 2 x9)) 1)) 1) = 0 then if r1.1 = 1 then zden w (d + 1) 321 43 [zA 13 32 209, zI x1, zI x2, zI x3, zI x4, v5, zI x6, zI x7, zI (zar 6 x8 1), zI (zar 0 x9 1)] [] r1.2 else zden w (d + 1) 321 43 [zA 13 32 209, zI x1, zI x2, zI x3, zI x4, v5, zI x6, zI x7, zI (zar 6 x8 0), zI (zar 0 x9 1)] [] r1.2 else if r1.1 = 0 then zden w (d + 1) 321 43 [zA 13 32 209, zI x1, zI x2, zI x3, zI x4, v5, zI x6, zI x7, zI (zar 6 x8 1), zI (zar 0 x9 1)] [] r1.2 else zden w (d + 1) 321 43 [zA 13 32 209, zI x1, zI x2, zI x3, zI x4, v5, zI x6, zI x7, zI (zar 6 x8 0), zI (zar 0 x9 1)] [] r1.2 else none else none else if x8 = 0 then zden w (d + 1) 321 36 [zA 13 32 209, zI x1, zI x2, zI x3, zI x4, (zlng 0 v5), zI (zar 7 x6 0), zI (zar 0 x7 1), zI x8, zI x9] [] σ else zden w (d + 1) 321 36 [zA 13 32 209, zI x1, zI x2, zI x3, zI x4, (zlng 0 v5), zI (zar 7 x6 (zar 9 1 x7)), zI (zar 0 x7 1), zI x8, zI x9] [] σ :=
  (zunr_eq w zc_X12_kinds [36, 43] (d + 1) 321 rfl 153 _ _ _ _).symm
set_option maxRecDepth 100000 in
theorem eX12_judge (w : zW) (d : Nat) (x1 x2 x3 : Int) (σ : zMem) : zcall w (d + 1) 322 [zA 13 32 209, zI x1, zI x2, zI x3] σ =
  (zcall w d 218 [zA 13 32 209, zI x1] σ).bind fun r1 => if r1.1 = 0 then (zcall w d 214 [zA 13 32 209, zI (-62)] r1.2).bind fun r2 => some (r2.1, r2.2) else (zcall w d 307 [zI x2] r1.2).bind fun r3 => if r3.1 = 0 then (zcall w d 214 [zA 13 32 209, zI (-62)] r3.2).bind fun r4 => some (r4.1, r4.2) else (zcall w d 213 [zJ x3, zJ 0, zJ 20] r3.2).bind fun r5 => if r5.1 = 0 then (zcall w d 214 [zA 13 32 209, zI (-62)] r5.2).bind fun r6 => some (r6.1, r6.2) else (zcall w d 319 [zA 13 32 209, zI x2, zI x3] r5.2).bind fun r7 => if r7.1 < 0 then (zcall w d 214 [zA 13 32 209, zI r7.1] r7.2).bind fun r8 => some (r8.1, r8.2) else zden w (d + 1) 322 30 [zA 13 32 209, zI x1, zI x2, zI x3, zI r7.1, zI 0] [] r7.2 :=
  (zcall_eq rfl).trans (zunr_eq w zc_X12_judge [30] (d + 1) 322 rfl 122 _ _ _ _).symm
set_option maxRecDepth 100000 in
theorem hX12_judge_30 (w : zW) (d : Nat) (x1 x2 x3 x5 : Int) (v4 : zV) (σ : zMem) : zden w (d + 1) 322 30 [zA 13 32 209, zI x1, zI x2, zI x3, v4, zI x5] [] σ =
  if x5 < x3 then if (0 : Int) ≤ (zar 0 (zar 2 40 x2) (zar 2 2 x5)) ∧ (zar 0 (zar 2 40 x2) (zar 2 2 x5)) < 320 then (zcall w d 248 [zA 13 32 209, zI x1, zI (zar 23 (σ 228 (zar 0 (zar 2 40 x2) (zar 2 2 x5))) 0)] σ).bind fun r1 => if (0 : Int) ≤ (zar 0 (zar 0 (zar 2 40 x2) (zar 2 2 x5)) 1) ∧ (zar 0 (zar 0 (zar 2 40 x2) (zar 2 2 x5)) 1) < 320 then if (zar 22 (r1.2 228 (zar 0 (zar 0 (zar 2 40 x2) (zar 2 2 x5)) 1)) 1) = 0 then if r1.1 = 1 then zden w (d + 1) 322 30 [zA 13 32 209, zI x1, zI x2, zI x3, (zlng 0 v4), zI (zar 0 x5 1)] [] r1.2 else some (x5, r1.2) else if r1.1 = 0 then zden w (d + 1) 322 30 [zA 13 32 209, zI x1, zI x2, zI x3, (zlng 0 v4), zI (zar 0 x5 1)] [] r1.2 else some (x5, r1.2) else none else none else some (-1, σ) :=
  (zunr_eq w zc_X12_judge [30] (d + 1) 322 rfl 122 _ _ _ _).symm
set_option maxRecDepth 100000 in
theorem eX12_carves (w : zW) (d : Nat) (x1 : Int) (σ : zMem) : zcall w d 323 [zA 13 32 209, zI x1] σ =
  if (σ 209 24) = 12 then zden w d 323 11 [zA 13 32 209, zI x1, zA 22 4096 (σ 230 0), zI 1, zU, zU] [] σ else zden w d 323 34 [zA 13 32 209, zI x1, zU, zU, zU, zU] [] σ :=
  (zcall_eq rfl).trans (zunr_eq w zc_X12_carves [11, 34, 38, 57, 73, 87, 98, 114, 125] d 323 rfl 198 _ _ _ _).symm
set_option maxRecDepth 100000 in
theorem hX12_carves_11 (w : zW) (d : Nat) (x1 a2 x3 : Int) (σ : zMem) : zden w d 323 11 [zA 13 32 209, zI x1, zA 22 4096 a2, zI x3, zU, zU] [] σ =
  if x3 < 12 then if (0 : Int) ≤ x3 ∧ x3 < 12 then if (0 : Int) ≤ (zar 1 x3 1) ∧ (zar 1 x3 1) < 12 then zden w d 323 11 [zA 13 32 209, zI x1, zA 22 4096 a2, zI (zar 0 x3 1), zU, zU] [] (zup σ 230 (zar 1 x3 1) (σ 230 x3)) else none else none else zden w d 323 34 [zA 13 32 209, zI x1, zA 22 4096 a2, zI x3, zU, zU] [] (zup (zup σ 230 11 a2) 209 24 11) :=
  (zunr_eq w zc_X12_carves [11, 34, 38, 57, 73, 87, 98, 114, 125] d 323 rfl 198 _ _ _ _).symm
set_option maxRecDepth 100000 in
theorem hX12_carves_34 (w : zW) (d : Nat) (x1 : Int) (v2 v3 : zV) (σ : zMem) : zden w d 323 34 [zA 13 32 209, zI x1, v2, v3, zU, zU] [] σ =
  zden w d 323 38 [zA 13 32 209, zI x1, zI 0, zI 0, zU, zU] [] σ :=
  (zunr_eq w zc_X12_carves [11, 34, 38, 57, 73, 87, 98, 114, 125] d 323 rfl 198 _ _ _ _).symm
set_option maxRecDepth 100000 in
theorem hX12_carves_38 (w : zW) (d : Nat) (x1 x2 x3 : Int) (v4 v5 : zV) (σ : zMem) : zden w d 323 38 [zA 13 32 209, zI x1, zI x2, zI x3, v4, v5] [] σ =
  if x3 < 4096 then if (0 : Int) ≤ x3 ∧ x3 < 4096 then if x1 = 0 then if (0 : Int) ≤ x3 ∧ x3 < 4096 then if (σ 229 x3) = 0 then if (σ 215 x3) = 0 then zden w d 323 98 [zA 13 32 209, zI x1, zI x2, zI x3, zI (σ 215 x3), v5] [zI 0] σ else zden w d 323 57 [zA 13 32 209, zI x1, zI x2, zI x3, zI (σ 215 x3), v5] [] σ else zden w d 323 57 [zA 13 32 209, zI x1, zI x2, zI x3, zI (σ 215 x3), v5] [] σ else none else if x1 = 1 then if (0 : Int) ≤ x3 ∧ x3 < 4096 then if (σ 229 x3) = 0 then zden w d 323 73 [zA 13 32 209, zI x1, zI x2, zI x3, zI (σ 215 x3), v5] [] σ else if (σ 215 x3) = 0 then zden w d 323 98 [zA 13 32 209, zI x1, zI x2, zI x3, zI (σ 215 x3), v5] [zI 1] σ else zden w d 323 73 [zA 13 32 209, zI x1, zI x2, zI x3, zI (σ 215 x3), v5] [] σ else none else if x1 = 2 then if (0 : Int) ≤ x3 ∧ x3 < 4096 then if (σ 229 x3) = 0 then zden w d 323 87 [zA 13 32 209, zI x1, zI x2, zI x3, zI (σ 215 x3), v5] [] σ else if (σ 215 x3) = 0 then zden w d 323 87 [zA 13 32 209, zI x1, zI x2, zI x3, zI (σ 215 x3), v5] [] σ else zden w d 323 98 [zA 13 32 209, zI x1, zI x2, zI x3, zI (σ 215 x3), v5] [zI 1] σ else none else if (0 : Int) ≤ x3 ∧ x3 < 4096 then if (σ 229 x3) = (σ 215 x3) then zden w d 323 98 [zA 13 32 209, zI x1, zI x2, zI x3, zI (σ 215 x3), v5] [zI 0] σ else zden w d 323 98 [zA 13 32 209, zI x1, zI x2, zI x3, zI (σ 215 x3), v5] [zI 1] σ else none else none else some (x2, zup (zup σ 209 24 (zar 0 (σ 209 24) 1)) 209 25 (zar 0 ((zup σ 209 24 (zar 0 (σ 209 24) 1)) 209 25) 1)) :=
  (zunr_eq w zc_X12_carves [11, 34, 38, 57, 73, 87, 98, 114, 125] d 323 rfl 198 _ _ _ _).symm
set_option maxRecDepth 100000 in
theorem hX12_carves_57 (w : zW) (d : Nat) (x1 x2 x3 : Int) (v4 v5 : zV) (σ : zMem) : zden w d 323 57 [zA 13 32 209, zI x1, zI x2, zI x3, v4, v5] [] σ =
  zden w d 323 98 [zA 13 32 209, zI x1, zI x2, zI x3, v4, v5] [zI 1] σ :=
  (zunr_eq w zc_X12_carves [11, 34, 38, 57, 73, 87, 98, 114, 125] d 323 rfl 198 _ _ _ _).symm
set_option maxRecDepth 100000 in
theorem hX12_carves_73 (w : zW) (d : Nat) (x1 x2 x3 : Int) (v4 v5 : zV) (σ : zMem) : zden w d 323 73 [zA 13 32 209, zI x1, zI x2, zI x3, v4, v5] [] σ =
  zden w d 323 98 [zA 13 32 209, zI x1, zI x2, zI x3, v4, v5] [zI 0] σ :=
  (zunr_eq w zc_X12_carves [11, 34, 38, 57, 73, 87, 98, 114, 125] d 323 rfl 198 _ _ _ _).symm
set_option maxRecDepth 100000 in
theorem hX12_carves_87 (w : zW) (d : Nat) (x1 x2 x3 : Int) (v4 v5 : zV) (σ : zMem) : zden w d 323 87 [zA 13 32 209, zI x1, zI x2, zI x3, v4, v5] [] σ =
  zden w d 323 98 [zA 13 32 209, zI x1, zI x2, zI x3, v4, v5] [zI 0] σ :=
  (zunr_eq w zc_X12_carves [11, 34, 38, 57, 73, 87, 98, 114, 125] d 323 rfl 198 _ _ _ _).symm
set_option maxRecDepth 100000 in
theorem hX12_carves_98 (w : zW) (d : Nat) (x1 x2 x3 s0 : Int) (v4 v5 : zV) (σ : zMem) : zden w d 323 98 [zA 13 32 209, zI x1, zI x2, zI x3, v4, v5] [zI s0] σ =
  if (0 : Int) ≤ (σ 209 24) ∧ (σ 209 24) < 12 then if (0 : Int) ≤ x3 ∧ x3 < 4096 then if s0 = (σ 229 x3) then zden w d 323 114 [zA 13 32 209, zI x1, zI x2, zI x3, (zlng 0 v4), zI s0] [zI 0, zI x3, zA 22 4096 (σ 230 (σ 209 24))] σ else zden w d 323 114 [zA 13 32 209, zI x1, zI x2, zI x3, (zlng 0 v4), zI s0] [zI 1, zI x3, zA 22 4096 (σ 230 (σ 209 24))] σ else none else none :=
  (zunr_eq w zc_X12_carves [11, 34, 38, 57, 73, 87, 98, 114, 125] d 323 rfl 198 _ _ _ _).symm
set_option maxRecDepth 100000 in
theorem hX12_carves_114 (w : zW) (d : Nat) (x1 x2 x3 x5 b0 s1 s2 : Int) (v4 : zV) (σ : zMem) : zden w d 323 114 [zA 13 32 209, zI x1, zI x2, zI x3, v4, zI x5] [zI s2, zI s1, zA 22 4096 b0] σ =
  if (0 : Int) ≤ s1 ∧ s1 < 4096 then if (0 : Int) ≤ x3 ∧ x3 < 4096 then if x5 = ((zup σ b0 s1 (s2 % 2)) 229 x3) then zden w d 323 125 [zA 13 32 209, zI x1, zI x2, zI x3, v4, zI x5] [zI 0, zI x2] (zup σ b0 s1 (s2 % 2)) else zden w d 323 125 [zA 13 32 209, zI x1, zI x2, zI x3, v4, zI x5] [zI 1, zI x2] (zup σ b0 s1 (s2 % 2)) else none else none :=
  (zunr_eq w zc_X12_carves [11, 34, 38, 57, 73, 87, 98, 114, 125] d 323 rfl 198 _ _ _ _).symm
set_option maxRecDepth 100000 in
theorem hX12_carves_125 (w : zW) (d : Nat) (x1 x3 x5 s0 s1 : Int) (v2 v4 : zV) (σ : zMem) : zden w d 323 125 [zA 13 32 209, zI x1, v2, zI x3, v4, zI x5] [zI s1, zI s0] σ =
  if (0 : Int) ≤ x3 ∧ x3 < 4096 then zden w d 323 38 [zA 13 32 209, zI x1, zI (zar 0 s0 s1), zI (zar 0 x3 1), v4, zI x5] [] (zup σ 229 x3 (x5 % 2)) else none :=
  (zunr_eq w zc_X12_carves [11, 34, 38, 57, 73, 87, 98, 114, 125] d 323 rfl 198 _ _ _ _).symm
set_option maxRecDepth 100000 in
theorem eX12_carve (w : zW) (d : Nat) (x1 x2 : Int) (σ : zMem) : zcall w (d + 1) 324 [zA 13 32 209, zI x1, zI x2] σ =
  (zcall w d 218 [zA 13 32 209, zI x1] σ).bind fun r1 => if r1.1 = 0 then (zcall w d 214 [zA 13 32 209, zI (-62)] r1.2).bind fun r2 => some (r2.1, r2.2) else (zcall w d 213 [zJ x2, zJ 0, zJ 3] r1.2).bind fun r3 => if r3.1 = 0 then (zcall w d 214 [zA 13 32 209, zI (-62)] r3.2).bind fun r4 => some (r4.1, r4.2) else (zcall w d 249 [zA 13 32 209, zI 0, zI x1] r3.2).bind fun r5 => (zcall w d 323 [zA 13 32 209, zI x2] r5.2).bind fun r6 => some (r6.1, r6.2) :=
  (zcall_eq rfl).trans (zunr_eq w zc_X12_carve [] (d + 1) 324 rfl 73 _ _ _ _).symm
set_option maxRecDepth 100000 in
theorem eX12_undo (w : zW) (d : Nat) (σ : zMem) : zcall w (d + 1) 325 [zA 13 32 209] σ =
  if (σ 209 24) = 0 then (zcall w d 214 [zA 13 32 209, zI (-65)] σ).bind fun r1 => some (r1.1, r1.2) else zden w (d + 1) 325 15 [zA 13 32 209, zI 0] [] (zup σ 209 24 (zar 1 (σ 209 24) 1)) :=
  (zcall_eq rfl).trans (zunr_eq w zc_X12_undo [15] (d + 1) 325 rfl 87 _ _ _ _).symm
set_option maxRecDepth 100000 in
theorem hX12_undo_15 (w : zW) (d : Nat) (x1 : Int) (σ : zMem) : zden w (d + 1) 325 15 [zA 13 32 209, zI x1] [] σ =
  if x1 < 4096 then if (0 : Int) ≤ x1 ∧ x1 < 4096 then if (0 : Int) ≤ (σ 209 24) ∧ (σ 209 24) < 12 then if (0 : Int) ≤ x1 ∧ x1 < 4096 then if (0 : Int) ≤ x1 ∧ x1 < 4096 then zden w (d + 1) 325 15 [zA 13 32 209, zI (zar 0 x1 1)] [] (zup σ 229 x1 ((zar 8 (σ 229 x1) (σ (σ 230 (σ 209 24)) x1)) % 2)) else none else none else none else none else some (σ 209 24, σ) :=
  (zunr_eq w zc_X12_undo [15] (d + 1) 325 rfl 87 _ _ _ _).symm
set_option maxRecDepth 100000 in
theorem eX12_blockMany (w : zW) (d : Nat) (σ : zMem) : zcall w d 326 [zA 13 32 209] σ =
  zden w d 326 4 [zA 13 32 209, zI 0, zI 0] [] σ :=
  (zcall_eq rfl).trans (zunr_eq w zc_X12_blockMany [4] d 326 rfl 82 _ _ _ _).symm
set_option maxRecDepth 100000 in
theorem hX12_blockMany_4 (w : zW) (d : Nat) (x1 x2 : Int) (σ : zMem) : zden w d 326 4 [zA 13 32 209, zI x1, zI x2] [] σ =
  if x2 < 4096 then if (0 : Int) ≤ x2 ∧ x2 < 4096 then if (0 : Int) ≤ x2 ∧ x2 < 4096 then if (0 : Int) ≤ x2 ∧ x2 < 4096 then if ((zup σ 216 x2 ((σ 229 x2) % 2)) 229 x2) = 0 then zden w d 326 4 [zA 13 32 209, zI (zar 0 x1 0), zI (zar 0 x2 1)] [] (zup σ 216 x2 ((σ 229 x2) % 2)) else zden w d 326 4 [zA 13 32 209, zI (zar 0 x1 1), zI (zar 0 x2 1)] [] (zup σ 216 x2 ((σ 229 x2) % 2)) else none else none else none else some (x1, σ) :=
  (zunr_eq w zc_X12_blockMany [4] d 326 rfl 82 _ _ _ _).symm
set_option maxRecDepth 100000 in
theorem eX12_block (w : zW) (d : Nat) (x1 : Int) (σ : zMem) : zcall w (d + 1) 327 [zA 13 32 209, zI x1] σ =
  (zcall w d 213 [zJ x1, zJ 0, zJ 2] σ).bind fun r1 => if r1.1 = 0 then (zcall w d 214 [zA 13 32 209, zI (-62)] r1.2).bind fun r2 => some (r2.1, r2.2) else (zcall w d 326 [zA 13 32 209] r1.2).bind fun r3 => if x1 = 0 then some (r3.1, r3.2) else if x1 = 1 then (zcall w d 259 [zA 13 32 209, zI 1] r3.2).bind fun r4 => some (r4.1, r4.2) else (zcall w d 261 [zA 13 32 209, zI 1, zI 0] r3.2).bind fun r5 => some (r5.1, r5.2) :=
  (zcall_eq rfl).trans (zunr_eq w zc_X12_block [] (d + 1) 327 rfl 79 _ _ _ _).symm
set_option maxRecDepth 100000 in
theorem eX12_has (w : zW) (d : Nat) (x1 : Int) (σ : zMem) : zcall w (d + 1) 328 [zA 13 32 209, zI x1] σ =
  (zcall w d 246 [zI x1] σ).bind fun r1 => if r1.1 = 0 then (zcall w d 214 [zA 13 32 209, zI (-62)] r1.2).bind fun r2 => some (r2.1, r2.2) else if (0 : Int) ≤ x1 ∧ x1 < 4096 then if (r1.2 229 x1) = 0 then some (0, r1.2) else some (1, r1.2) else none :=
  (zcall_eq rfl).trans (zunr_eq w zc_X12_has [] (d + 1) 328 rfl 66 _ _ _ _).symm
set_option maxRecDepth 100000 in
theorem eX12_off (w : zW) (d : Nat) (x1 : Int) (σ : zMem) : zcall w (d + 1) 329 [zA 13 32 209, zI x1] σ =
  (zcall w d 218 [zA 13 32 209, zI x1] σ).bind fun r1 => if r1.1 = 0 then (zcall w d 214 [zA 13 32 209, zI (-62)] r1.2).bind fun r2 => some (r2.1, r2.2) else zden w (d + 1) 329 12 [zA 13 32 209, zI x1, zI 0, zI 0] [] r1.2 :=
  (zcall_eq rfl).trans (zunr_eq w zc_X12_off [12] (d + 1) 329 rfl 84 _ _ _ _).symm
set_option maxRecDepth 100000 in
theorem hX12_off_12 (w : zW) (d : Nat) (x1 x2 x3 : Int) (σ : zMem) : zden w (d + 1) 329 12 [zA 13 32 209, zI x1, zI x2, zI x3] [] σ =
  if x3 < 4096 then if (0 : Int) ≤ x3 ∧ x3 < 4096 then (zcall w d 248 [zA 13 32 209, zI x1, zI x3] σ).bind fun r1 => if (σ 229 x3) = r1.1 then zden w (d + 1) 329 12 [zA 13 32 209, zI x1, zI (zar 0 x2 0), zI (zar 0 x3 1)] [] r1.2 else zden w (d + 1) 329 12 [zA 13 32 209, zI x1, zI (zar 0 x2 1), zI (zar 0 x3 1)] [] r1.2 else none else some (x2, σ) :=
  (zunr_eq w zc_X12_off [12] (d + 1) 329 rfl 84 _ _ _ _).symm
set_option maxRecDepth 100000 in
theorem eX12_draw (w : zW) (d : Nat) (x1 : Int) (σ : zMem) : zcall w d 330 [zA 13 32 209, zI x1] σ =
  if x1 = 0 then none else some (zar 4 (zar 11 ((zup σ 209 26 (zar 0 (zar 2 (σ 209 26) 1103515245) 12345)) 209 26) 16) x1, zup σ 209 26 (zar 0 (zar 2 (σ 209 26) 1103515245) 12345)) :=
  (zcall_eq rfl).trans (zunr_eq w zc_X12_draw [] d 330 rfl 65 _ _ _ _).symm
set_option maxRecDepth 100000 in
theorem eX12_days (w : zW) (d : Nat) (x1 : Int) (σ : zMem) : zcall w (d + 1) 331 [zA 13 32 209, zI x1] σ =
  (zcall w d 213 [zJ x1, zJ 1, zJ 60] σ).bind fun r1 => if r1.1 = 0 then (zcall w d 214 [zA 13 32 209, zI (-62)] r1.2).bind fun r2 => some (r2.1, r2.2) else zden w (d + 1) 331 12 [zA 13 32 209, zI x1, zI 0, zU, zU, zU, zU, zU, zU, zU, zU] [] r1.2 :=
  (zcall_eq rfl).trans (zunr_eq w zc_X12_days [12, 33] (d + 1) 331 rfl 138 _ _ _ _).symm
set_option maxRecDepth 100000 in
theorem hX12_days_12 (w : zW) (d : Nat) (x1 x2 : Int) (v3 v4 v5 v6 v7 v8 v9 v10 : zV) (σ : zMem) : zden w (d + 1) 331 12 [zA 13 32 209, zI x1, zI x2, v3, v4, v5, v6, v7, v8, v9, v10] [] σ =
  if x2 < x1 then (zcall w d 330 [zA 13 32 209, zI 16] σ).bind fun r1 => (zcall w d 330 [zA 13 32 209, zI 16] r1.2).bind fun r2 => (zcall w d 330 [zA 13 32 209, zI 16] r2.2).bind fun r3 => (zcall w d 330 [zA 13 32 209, zI 6] r3.2).bind fun r4 => zden w (d + 1) 331 33 [zA 13 32 209, zI x1, zI x2, zI r1.1, zI r2.1, zI r3.1, zI r4.1, zI 0, v8, v9, v10] [] r4.2 else (zcall w d 326 [zA 13 32 209] σ).bind fun r5 => some (r5.1, r5.2) :=
  (zunr_eq w zc_X12_days [12, 33] (d + 1) 331 rfl 138 _ _ _ _).symm
set_option maxRecDepth 100000 in
theorem hX12_days_33 (w : zW) (d : Nat) (x1 x2 x3 x4 x5 x6 x7 : Int) (v8 v9 v10 : zV) (σ : zMem) : zden w (d + 1) 331 33 [zA 13 32 209, zI x1, zI x2, zI x3, zI x4, zI x5, zI x6, zI x7, v8, v9, v10] [] σ =
  if x7 < 4096 then (zcall w d 243 [zI x7] σ).bind fun r1 => (zcall w d 244 [zI x7] r1.2).bind fun r2 => (zcall w d 245 [zI x7] r2.2).bind fun r3 => if (zar 2 x6 x6) < (zar 0 (zar 0 (zar 2 (zar 1 r1.1 x3) (zar 1 r1.1 x3)) (zar 2 (zar 1 r2.1 x4) (zar 1 r2.1 x4))) (zar 2 (zar 1 r3.1 x5) (zar 1 r3.1 x5))) then if (0 : Int) ≤ x7 ∧ x7 < 4096 then zden w (d + 1) 331 33 [zA 13 32 209, zI x1, zI x2, zI x3, zI x4, zI x5, zI x6, zI (zar 0 x7 1), zI (zar 1 r1.1 x3), zI (zar 1 r2.1 x4), zI (zar 1 r3.1 x5)] [] (zup r3.2 215 x7 0) else none else if (0 : Int) ≤ x7 ∧ x7 < 4096 then zden w (d + 1) 331 33 [zA 13 32 209, zI x1, zI x2, zI x3, zI x4, zI x5, zI x6, zI (zar 0 x7 1), zI (zar 1 r1.1 x3), zI (zar 1 r2.1 x4), zI (zar 1 r3.1 x5)] [] (zup r3.2 215 x7 1) else none else (zcall w d 330 [zA 13 32 209, zI 4] σ).bind fun r4 => (zcall w d 323 [zA 13 32 209, zI r4.1] r4.2).bind fun r5 => zden w (d + 1) 331 12 [zA 13 32 209, zI x1, zI (zar 0 x2 1), zI x3, zI x4, zI x5, zI x6, zI r5.1, v8, v9, v10] [] r5.2 :=
  (zunr_eq w zc_X12_days [12, 33] (d + 1) 331 rfl 138 _ _ _ _).symm
set_option maxRecDepth 100000 in
theorem eX12_seed (w : zW) (d : Nat) (x1 : Int) (σ : zMem) : zcall w d 332 [zA 13 32 209, zI x1] σ =
  some (σ 209 26, zup σ 209 26 x1) :=
  (zcall_eq rfl).trans (zunr_eq w zc_X12_seed [] d 332 rfl 58 _ _ _ _).symm
set_option maxRecDepth 100000 in
theorem eX12_copies (w : zW) (d : Nat) (n1 a1 n2 a2 : Int) (σ : zMem) : zcall w d 333 [zA 22 n1 a1, zA 22 n2 a2] σ =
  zden w d 333 2 [zA 22 n1 a1, zA 22 n2 a2, zI 0] [] σ :=
  (zcall_eq rfl).trans (zunr_eq w zc_X12_copies [2] d 333 rfl 64 _ _ _ _).symm
set_option maxRecDepth 100000 in
theorem hX12_copies_2 (w : zW) (d : Nat) (n1 a1 n2 a2 x2 : Int) (σ : zMem) : zden w d 333 2 [zA 22 n1 a1, zA 22 n2 a2, zI x2] [] σ =
  if x2 < 4096 then if (0 : Int) ≤ x2 ∧ x2 < n1 then if (0 : Int) ≤ x2 ∧ x2 < n2 then zden w d 333 2 [zA 22 n1 a1, zA 22 n2 a2, zI (zar 0 x2 1)] [] (zup σ a2 x2 ((σ a1 x2) % 2)) else none else none else some (0, σ) :=
  (zunr_eq w zc_X12_copies [2] d 333 rfl 64 _ _ _ _).symm
set_option maxRecDepth 100000 in
theorem eX12_image (w : zW) (d : Nat) (σ : zMem) : zcall w (d + 1) 334 [zA 13 32 209] σ =
  zden w (d + 1) 334 2 [zA 13 32 209, zI 0] [] σ :=
  (zcall_eq rfl).trans (zunr_eq w zc_X12_image [2, 22] (d + 1) 334 rfl 116 _ _ _ _).symm
set_option maxRecDepth 100000 in
theorem hX12_image_2 (w : zW) (d : Nat) (x1 : Int) (σ : zMem) : zden w (d + 1) 334 2 [zA 13 32 209, zI x1] [] σ =
  if x1 < 264 then if (0 : Int) ≤ x1 ∧ x1 < 264 then if (0 : Int) ≤ x1 ∧ x1 < 264 then zden w (d + 1) 334 2 [zA 13 32 209, zI (zar 0 x1 1)] [] (zup σ 243 x1 (σ 210 x1)) else none else none else (zcall w d 333 [zA 22 4096 229, zA 22 4096 244] σ).bind fun r1 => zden w (d + 1) 334 22 [zA 13 32 209, zI 0] [] r1.2 :=
  (zunr_eq w zc_X12_image [2, 22] (d + 1) 334 rfl 116 _ _ _ _).symm
set_option maxRecDepth 100000 in
theorem hX12_image_22 (w : zW) (d : Nat) (x1 : Int) (σ : zMem) : zden w (d + 1) 334 22 [zA 13 32 209, zI x1] [] σ =
  if x1 < (σ 209 24) then if (0 : Int) ≤ x1 ∧ x1 < 12 then if (0 : Int) ≤ x1 ∧ x1 < 12 then (zcall w d 333 [zA 22 4096 (σ 230 x1), zA 22 4096 (zR w 245 x1)] σ).bind fun r1 => zden w (d + 1) 334 22 [zA 13 32 209, zI (zar 0 x1 1)] [] r1.2 else none else none else some (1, zup (zup (zup (zup (zup σ 258 0 (σ 209 1)) 258 1 ((zup σ 258 0 (σ 209 1)) 209 24)) 258 2 ((zup (zup σ 258 0 (σ 209 1)) 258 1 ((zup σ 258 0 (σ 209 1)) 209 24)) 209 25)) 258 3 ((zup (zup (zup σ 258 0 (σ 209 1)) 258 1 ((zup σ 258 0 (σ 209 1)) 209 24)) 258 2 ((zup (zup σ 258 0 (σ 209 1)) 258 1 ((zup σ 258 0 (σ 209 1)) 209 24)) 209 25)) 209 26)) 209 31 1) :=
  (zunr_eq w zc_X12_image [2, 22] (d + 1) 334 rfl 116 _ _ _ _).symm
set_option maxRecDepth 100000 in
theorem eX12_back (w : zW) (d : Nat) (σ : zMem) : zcall w (d + 1) 335 [zA 13 32 209] σ =
  if (σ 209 31) = 0 then (zcall w d 214 [zA 13 32 209, zI (-65)] σ).bind fun r1 => some (r1.1, r1.2) else zden w (d + 1) 335 9 [zA 13 32 209, zI 0] [] σ :=
  (zcall_eq rfl).trans (zunr_eq w zc_X12_back [9, 53] (d + 1) 335 rfl 122 _ _ _ _).symm
set_option maxRecDepth 100000 in
theorem hX12_back_9 (w : zW) (d : Nat) (x1 : Int) (σ : zMem) : zden w (d + 1) 335 9 [zA 13 32 209, zI x1] [] σ =
  if x1 < 264 then if (0 : Int) ≤ x1 ∧ x1 < 264 then if (0 : Int) ≤ x1 ∧ x1 < 264 then zden w (d + 1) 335 9 [zA 13 32 209, zI (zar 0 x1 1)] [] (zup σ 210 x1 (σ 243 x1)) else none else none else (zcall w d 333 [zA 22 4096 244, zA 22 4096 229] (zup (zup (zup (zup σ 209 1 (σ 258 0)) 209 24 ((zup σ 209 1 (σ 258 0)) 258 1)) 209 25 ((zup (zup σ 209 1 (σ 258 0)) 209 24 ((zup σ 209 1 (σ 258 0)) 258 1)) 258 2)) 209 26 ((zup (zup (zup σ 209 1 (σ 258 0)) 209 24 ((zup σ 209 1 (σ 258 0)) 258 1)) 209 25 ((zup (zup σ 209 1 (σ 258 0)) 209 24 ((zup σ 209 1 (σ 258 0)) 258 1)) 258 2)) 258 3))).bind fun r1 => zden w (d + 1) 335 53 [zA 13 32 209, zI 0] [] r1.2 :=
  (zunr_eq w zc_X12_back [9, 53] (d + 1) 335 rfl 122 _ _ _ _).symm
set_option maxRecDepth 100000 in
theorem hX12_back_53 (w : zW) (d : Nat) (x1 : Int) (σ : zMem) : zden w (d + 1) 335 53 [zA 13 32 209, zI x1] [] σ =
  if x1 < (σ 209 24) then if (0 : Int) ≤ x1 ∧ x1 < 12 then if (0 : Int) ≤ x1 ∧ x1 < 12 then (zcall w d 333 [zA 22 4096 (zR w 245 x1), zA 22 4096 (σ 230 x1)] σ).bind fun r1 => zden w (d + 1) 335 53 [zA 13 32 209, zI (zar 0 x1 1)] [] r1.2 else none else none else (zcall w d 292 [zA 13 32 209] σ).bind fun r2 => some (1, r2.2) :=
  (zunr_eq w zc_X12_back [9, 53] (d + 1) 335 rfl 122 _ _ _ _).symm
set_option maxRecDepth 100000 in
theorem eX12_held (w : zW) (d : Nat) (σ : zMem) : zcall w d 336 [zA 13 32 209] σ =
  zden w d 336 4 [zA 13 32 209, zI 0, zI 0] [] σ :=
  (zcall_eq rfl).trans (zunr_eq w zc_X12_held [4] d 336 rfl 72 _ _ _ _).symm
set_option maxRecDepth 100000 in
theorem hX12_held_4 (w : zW) (d : Nat) (x1 x2 : Int) (σ : zMem) : zden w d 336 4 [zA 13 32 209, zI x1, zI x2] [] σ =
  if x2 < 8 then if (0 : Int) ≤ x2 ∧ x2 < 8 then if (σ 226 x2) < 0 then zden w d 336 4 [zA 13 32 209, zI (zar 0 x1 0), zI (zar 0 x2 1)] [] σ else zden w d 336 4 [zA 13 32 209, zI (zar 0 x1 1), zI (zar 0 x2 1)] [] σ else none else some (x1, σ) :=
  (zunr_eq w zc_X12_held [4] d 336 rfl 72 _ _ _ _).symm
set_option maxRecDepth 100000 in
theorem eX12_status (w : zW) (d : Nat) (x1 : Int) (σ : zMem) : zcall w (d + 1) 337 [zA 13 32 209, zI x1] σ =
  if x1 = 0 then some (σ 209 1, σ) else if x1 = 1 then some (σ 209 24, σ) else if x1 = 2 then (zcall w d 326 [zA 13 32 209] σ).bind fun r1 => some (r1.1, r1.2) else if x1 = 3 then some (σ 209 25, σ) else if x1 = 4 then some (σ 209 11, σ) else if x1 = 5 then some (σ 209 26, σ) else if x1 = 6 then (zcall w d 336 [zA 13 32 209] σ).bind fun r2 => some (r2.1, r2.2) else (zcall w d 213 [zJ x1, zJ 12, zJ 16] σ).bind fun r3 => if r3.1 = 0 then some (-1, r3.2) else if (0 : Int) ≤ (zar 1 x1 12) ∧ (zar 1 x1 12) < 5 then some (r3.2 211 (zar 1 x1 12), r3.2) else none :=
  (zcall_eq rfl).trans (zunr_eq w zc_X12_status [] (d + 1) 337 rfl 88 _ _ _ _).symm
