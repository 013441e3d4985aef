section
/-! Four equations at cut points, with all their locals apart -/
set_option maxRecDepth 100000 in
theorem kX2_isUnder_4 (w : zW) (d : Nat) (x1 x2 x3 : Int) (v0 : zV) (σ : zMem) : zden w d 26 4 [v0, zI x1, zI x2, zI x3] [] σ =
  if x3 < 18 then if x2 = x1 then some (1, σ) else if x2 < 0 then some (0, σ) else if x2 < 18 then if (0 : Int) ≤ x2 ∧ x2 < 18 then zden w d 26 4 [v0, zI x1, zI (zR w (-2) x2), zI (zar 0 x3 1)] [] σ else none else some (0, σ) else some (0, σ) :=
  (zunr_eq w zc_X2_isUnder [4] d 26 rfl 79 _ _ _ _).symm
set_option maxRecDepth 100000 in
theorem kX10_isBare_2 (w : zW) (d : Nat) (a1 x1 x2 : Int) (σ : zMem) : zden w (d + 1) 133 2 [zA 6 1 a1, zI x1, zI x2] [] σ =
  if x2 < 6 then (zcall w d 134 [zI x1, zI x2] σ).bind fun r1 => (zcall w d 49 [zA 6 1 a1, zI r1.1] r1.2).bind fun r2 => if r2.1 = 0 then some (1, r2.2) else zden w (d + 1) 133 2 [zA 6 1 a1, zI x1, zI (zar 0 x2 1)] [] r2.2 else some (0, σ) :=
  (zunr_eq w zc_X10_isBare [2] (d + 1) 133 rfl 67 _ _ _ _).symm
set_option maxRecDepth 100000 in
theorem kX11_meets_2 (w : zW) (d : Nat) (a1 a2 x3 x4 x5 : Int) (σ : zMem) : zden w (d + 1) 177 2 [zA 6 1 a1, zA 6 1 a2, zI x3, zI x4, zI x5] [] σ =
  if x5 < 4096 then (zcall w d 49 [zA 6 1 a1, zI x5] σ).bind fun r1 => if r1.1 = 0 then zden w (d + 1) 177 2 [zA 6 1 a1, zA 6 1 a2, zI x3, zI x4, zI (zar 0 x5 1)] [] r1.2 else (zcall w d 211 [zI x5, zI x3, zI x4] r1.2).bind fun r2 => (zcall w d 49 [zA 6 1 a2, zI r2.1] r2.2).bind fun r3 => if r3.1 = 0 then zden w (d + 1) 177 2 [zA 6 1 a1, zA 6 1 a2, zI x3, zI x4, zI (zar 0 x5 1)] [] r3.2 else some (1, r3.2) else some (0, σ) :=
  (zunr_eq w zc_X11_meets [2] (d + 1) 177 rfl 72 _ _ _ _).symm
set_option maxRecDepth 100000 in
theorem kX11_isRegion_10 (w : zW) (d : Nat) (x1 x2 x3 : Int) (σ : zMem) : zden w (d + 1) 207 10 [zI x1, zI x2, zI x3] [] σ =
  if x3 < 3 then (zcall w d 209 [zI x1, zI x3] σ).bind fun r1 => (zcall w d 209 [zI x2, zI x3] r1.2).bind fun r2 => if r2.1 < r1.1 then some (0, r2.2) else zden w (d + 1) 207 10 [zI x1, zI x2, zI (zar 0 x3 1)] [] r2.2 else some (1, σ) :=
  (zunr_eq w zc_X11_isRegion [10] (d + 1) 207 rfl 76 _ _ _ _).symm
end
