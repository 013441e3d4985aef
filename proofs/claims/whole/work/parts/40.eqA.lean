set_option maxRecDepth 100000 in
theorem eX0_places (w : zW) (d : Nat) (a0 : Int) (σ : zMem) : zcall w d 1 [zA 1 6 a0] σ =
  some (zR w a0 0, σ) :=
  (zcall_eq rfl).trans (zunr_eq w zc_X0_places [] d 1 rfl 53 _ _ _ _).symm
set_option maxRecDepth 100000 in
theorem eX0_left (w : zW) (d : Nat) (a0 : Int) (σ : zMem) : zcall w d 2 [zA 1 6 a0] σ =
  some (σ a0 3, σ) :=
  (zcall_eq rfl).trans (zunr_eq w zc_X0_left [] d 2 rfl 53 _ _ _ _).symm
set_option maxRecDepth 100000 in
theorem eX0_inAll (w : zW) (d : Nat) (a0 : Int) (σ : zMem) : zcall w d 3 [zA 1 6 a0] σ =
  some (σ a0 4, σ) :=
  (zcall_eq rfl).trans (zunr_eq w zc_X0_inAll [] d 3 rfl 53 _ _ _ _).symm
set_option maxRecDepth 100000 in
theorem eX0_drawnFrom (w : zW) (d : Nat) (a0 : Int) (σ : zMem) : zcall w d 4 [zA 1 6 a0] σ =
  some (σ a0 5, σ) :=
  (zcall_eq rfl).trans (zunr_eq w zc_X0_drawnFrom [] d 4 rfl 53 _ _ _ _).symm
set_option maxRecDepth 100000 in
theorem eX0_drawFrom (w : zW) (d : Nat) (a0 x1 : Int) (σ : zMem) : zcall w d 5 [zA 1 6 a0, zI x1] σ =
  some (0, zup σ a0 5 x1) :=
  (zcall_eq rfl).trans (zunr_eq w zc_X0_drawFrom [] d 5 rfl 54 _ _ _ _).symm
set_option maxRecDepth 100000 in
theorem eX0_draw (w : zW) (d : Nat) (a0 x1 : Int) (σ : zMem) : zcall w d 6 [zA 1 6 a0, zI x1] σ =
  if x1 < 1 then some (0, zup σ a0 5 (zar 0 (zar 2 (σ a0 5) 1103515245) 12345)) else if x1 = 0 then none else some (zar 4 (zar 11 ((zup σ a0 5 (zar 0 (zar 2 (σ a0 5) 1103515245) 12345)) a0 5) 16) x1, zup σ a0 5 (zar 0 (zar 2 (σ a0 5) 1103515245) 12345)) :=
  (zcall_eq rfl).trans (zunr_eq w zc_X0_draw [] d 6 rfl 70 _ _ _ _).symm
set_option maxRecDepth 100000 in
theorem eX0_carveBy (w : zW) (d : Nat) (a0 a1 x2 : Int) (σ : zMem) : zcall w (d + 1) 7 [zA 1 6 a0, zA 6 1 a1, zI x2] σ =
  (zcall w d 339 [zI (σ a0 2), zI 12] σ).bind fun r1 => if (0 : Int) ≤ r1.1 ∧ r1.1 < 12 then (zcall w d 55 [zA 6 1 (zR w (zR w a0 1) r1.1), zA 6 1 (zR w a0 0), zA 6 1 a1, zI x2] r1.2).bind fun r2 => (zcall w d 56 [zA 6 1 (zR w a0 0), zA 6 1 (zR w (zR w a0 1) r1.1)] r2.2).bind fun r3 => (zcall w d 339 [zI (zar 0 (r3.2 a0 2) 1), zI 12] r3.2).bind fun r4 => (zcall w d 343 [zI (zar 0 ((zup r4.2 a0 2 r4.1) a0 3) 1), zI 12] (zup r4.2 a0 2 r4.1)).bind fun r5 => (zcall w d 57 [zA 6 1 (zR w (zR w a0 1) r1.1)] (zup (zup r5.2 a0 3 r5.1) a0 4 (zar 0 ((zup r5.2 a0 3 r5.1) a0 4) 1))).bind fun r6 => some (r6.1, r6.2) else none :=
  (zcall_eq rfl).trans (zunr_eq w zc_X0_carveBy [] (d + 1) 7 rfl 93 _ _ _ _).symm
set_option maxRecDepth 100000 in
theorem eX0_tellBack (w : zW) (d : Nat) (a0 : Int) (σ : zMem) : zcall w (d + 1) 8 [zA 1 6 a0] σ =
  (zcall w d 339 [zI (zar 1 (σ a0 2) 1), zI 12] σ).bind fun r1 => if (0 : Int) ≤ ((zup r1.2 a0 2 r1.1) a0 2) ∧ ((zup r1.2 a0 2 r1.1) a0 2) < 12 then (zcall w d 56 [zA 6 1 (zR w a0 0), zA 6 1 (zR w (zR w a0 1) ((zup r1.2 a0 2 r1.1) a0 2))] (zup r1.2 a0 2 r1.1)).bind fun r2 => some (0, zup r2.2 a0 3 (zar 1 (r2.2 a0 3) 1)) else none :=
  (zcall_eq rfl).trans (zunr_eq w zc_X0_tellBack [] (d + 1) 8 rfl 73 _ _ _ _).symm
set_option maxRecDepth 100000 in
theorem eX0_takeFrom (w : zW) (d : Nat) (a0 a1 : Int) (σ : zMem) : zcall w (d + 1) 9 [zA 1 6 a0, zA 1 6 a1] σ =
  (zcall w d 53 [zA 6 1 (zR w a0 0), zA 6 1 (zR w a1 0)] σ).bind fun r1 => zden w (d + 1) 9 7 [zA 1 6 a0, zA 1 6 a1, zI 0] [] r1.2 :=
  (zcall_eq rfl).trans (zunr_eq w zc_X0_takeFrom [7] (d + 1) 9 rfl 88 _ _ _ _).symm
set_option maxRecDepth 100000 in
theorem hX0_takeFrom_7 (w : zW) (d : Nat) (a0 a1 x2 : Int) (σ : zMem) : zden w (d + 1) 9 7 [zA 1 6 a0, zA 1 6 a1, zI x2] [] σ =
  if x2 < 12 then if (0 : Int) ≤ x2 ∧ x2 < 12 then if (0 : Int) ≤ x2 ∧ x2 < 12 then (zcall w d 53 [zA 6 1 (zR w (zR w a0 1) x2), zA 6 1 (zR w (zR w a1 1) x2)] σ).bind fun r1 => zden w (d + 1) 9 7 [zA 1 6 a0, zA 1 6 a1, zI (zar 0 x2 1)] [] r1.2 else none else none else some (0, zup (zup (zup (zup σ a0 2 (σ a1 2)) a0 3 ((zup σ a0 2 (σ a1 2)) a1 3)) a0 4 ((zup (zup σ a0 2 (σ a1 2)) a0 3 ((zup σ a0 2 (σ a1 2)) a1 3)) a1 4)) a0 5 ((zup (zup (zup σ a0 2 (σ a1 2)) a0 3 ((zup σ a0 2 (σ a1 2)) a1 3)) a0 4 ((zup (zup σ a0 2 (σ a1 2)) a0 3 ((zup σ a0 2 (σ a1 2)) a1 3)) a1 4)) a1 5)) :=
  (zunr_eq w zc_X0_takeFrom [7] (d + 1) 9 rfl 88 _ _ _ _).symm
set_option maxRecDepth 100000 in
theorem eX1_numerator (w : zW) (d : Nat) (a0 : Int) (σ : zMem) : zcall w d 11 [zA 2 2 a0] σ =
  some (σ a0 0, σ) :=
  (zcall_eq rfl).trans (zunr_eq w zc_X1_numerator [] d 11 rfl 53 _ _ _ _).symm
set_option maxRecDepth 100000 in
theorem eX1_denominator (w : zW) (d : Nat) (a0 : Int) (σ : zMem) : zcall w d 12 [zA 2 2 a0] σ =
  some (σ a0 1, σ) :=
  (zcall_eq rfl).trans (zunr_eq w zc_X1_denominator [] d 12 rfl 53 _ _ _ _).symm
set_option maxRecDepth 100000 in
theorem eX1_isAboveZero (w : zW) (d : Nat) (a0 : Int) (σ : zMem) : zcall w d 13 [zA 2 2 a0] σ =
  if 0 < (zar 22 (σ a0 0) 0) then some (1, σ) else some (0, σ) :=
  (zcall_eq rfl).trans (zunr_eq w zc_X1_isAboveZero [] d 13 rfl 59 _ _ _ _).symm
set_option maxRecDepth 100000 in
theorem eX1_isBelowZero (w : zW) (d : Nat) (a0 : Int) (σ : zMem) : zcall w d 14 [zA 2 2 a0] σ =
  if (zar 22 (σ a0 0) 0) < 0 then some (1, σ) else some (0, σ) :=
  (zcall_eq rfl).trans (zunr_eq w zc_X1_isBelowZero [] d 14 rfl 59 _ _ _ _).symm
set_option maxRecDepth 100000 in
theorem eX1_isAbove (w : zW) (d : Nat) (a0 a1 : Int) (σ : zMem) : zcall w d 15 [zA 2 2 a0, zA 2 2 a1] σ =
  if 0 < (zar 22 (zar 14 (σ a0 0) (σ a1 1)) (zar 14 (σ a1 0) (σ a0 1))) then some (1, σ) else some (0, σ) :=
  (zcall_eq rfl).trans (zunr_eq w zc_X1_isAbove [] d 15 rfl 66 _ _ _ _).symm
set_option maxRecDepth 100000 in
theorem eX1_putWhole (w : zW) (d : Nat) (a0 x1 : Int) (σ : zMem) : zcall w d 16 [zA 2 2 a0, zJ x1] σ =
  some (0, zup (zup σ a0 0 x1) a0 1 1) :=
  (zcall_eq rfl).trans (zunr_eq w zc_X1_putWhole [] d 16 rfl 57 _ _ _ _).symm
set_option maxRecDepth 100000 in
theorem eX1_put (w : zW) (d : Nat) (a0 x1 x2 : Int) (σ : zMem) : zcall w (d + 1) 17 [zA 2 2 a0, zJ x1, zJ x2] σ =
  (zcall w d 340 [zJ x2] σ).bind fun r1 => (zcall w d 340 [zJ x1] r1.2).bind fun r2 => zden w (d + 1) 17 8 [zA 2 2 a0, zJ x1, zU, zJ x2, zU, zJ r1.1, zU, zJ r2.1, zU, zI 0, zU, zU] [] r2.2 :=
  (zcall_eq rfl).trans (zunr_eq w zc_X1_put [8] (d + 1) 17 rfl 97 _ _ _ _).symm
set_option maxRecDepth 100000 in
theorem hX1_put_8 (w : zW) (d : Nat) (a0 x1 x2 x5 x7 x9 : Int) (v10 : zV) (σ : zMem) : zden w (d + 1) 17 8 [zA 2 2 a0, zJ x1, zU, zJ x2, zU, zJ x5, zU, zJ x7, zU, zI x9, v10, zU] [] σ =
  if x9 < 200 then if (zar 22 x7 0) = 0 then if 0 < (zar 22 x5 1) then if x5 = 0 then none else if x5 = 0 then none else some (0, zup (zup σ a0 0 (zar 15 x1 x5)) a0 1 (zar 15 x2 x5)) else some (0, zup (zup σ a0 0 x1) a0 1 x2) else if x7 = 0 then none else zden w (d + 1) 17 8 [zA 2 2 a0, zJ x1, zU, zJ x2, zU, zJ x7, zU, zJ (zar 4 x5 x7), zU, zI (zar 0 x9 1), zJ (zar 4 x5 x7), zU] [] σ else if 0 < (zar 22 x5 1) then if x5 = 0 then none else if x5 = 0 then none else some (0, zup (zup σ a0 0 (zar 15 x1 x5)) a0 1 (zar 15 x2 x5)) else some (0, zup (zup σ a0 0 x1) a0 1 x2) :=
  (zunr_eq w zc_X1_put [8] (d + 1) 17 rfl 97 _ _ _ _).symm
set_option maxRecDepth 100000 in
theorem eX1_take (w : zW) (d : Nat) (a0 a1 : Int) (σ : zMem) : zcall w d 18 [zA 2 2 a0, zA 2 2 a1] σ =
  some (0, zup (zup σ a0 0 (σ a1 0)) a0 1 ((zup σ a0 0 (σ a1 0)) a1 1)) :=
  (zcall_eq rfl).trans (zunr_eq w zc_X1_take [] d 18 rfl 59 _ _ _ _).symm
set_option maxRecDepth 100000 in
theorem eX1_takeLesser (w : zW) (d : Nat) (a0 a1 : Int) (σ : zMem) : zcall w (d + 1) 19 [zA 2 2 a0, zA 2 2 a1] σ =
  (zcall w d 15 [zA 2 2 a0, zA 2 2 a1] σ).bind fun r1 => if r1.1 = 0 then some (0, r1.2) else (zcall w d 18 [zA 2 2 a0, zA 2 2 a1] r1.2).bind fun r2 => some (0, r2.2) :=
  (zcall_eq rfl).trans (zunr_eq w zc_X1_takeLesser [] (d + 1) 19 rfl 58 _ _ _ _).symm
set_option maxRecDepth 100000 in
theorem eX1_takeGreater (w : zW) (d : Nat) (a0 a1 : Int) (σ : zMem) : zcall w (d + 1) 20 [zA 2 2 a0, zA 2 2 a1] σ =
  (zcall w d 15 [zA 2 2 a1, zA 2 2 a0] σ).bind fun r1 => if r1.1 = 0 then some (0, r1.2) else (zcall w d 18 [zA 2 2 a0, zA 2 2 a1] r1.2).bind fun r2 => some (0, r2.2) :=
  (zcall_eq rfl).trans (zunr_eq w zc_X1_takeGreater [] (d + 1) 20 rfl 58 _ _ _ _).symm
set_option maxRecDepth 100000 in
theorem eX1_changeWith (w : zW) (d : Nat) (a0 a1 : Int) (σ : zMem) : zcall w d 21 [zA 2 2 a0, zA 2 2 a1] σ =
  some (0, zup (zup (zup (zup σ a0 0 (σ a1 0)) a0 1 ((zup σ a0 0 (σ a1 0)) a1 1)) a1 0 (σ a0 0)) a1 1 (σ a0 1)) :=
  (zcall_eq rfl).trans (zunr_eq w zc_X1_changeWith [] d 21 rfl 71 _ _ _ _).symm
set_option maxRecDepth 100000 in
theorem eX1_turnSign (w : zW) (d : Nat) (a0 : Int) (σ : zMem) : zcall w d 22 [zA 2 2 a0] σ =
  some (0, zup σ a0 0 (zar 16 (σ a0 0) 0)) :=
  (zcall_eq rfl).trans (zunr_eq w zc_X1_turnSign [] d 22 rfl 56 _ _ _ _).symm
set_option maxRecDepth 100000 in
theorem eX1_becomeAmount (w : zW) (d : Nat) (a0 : Int) (σ : zMem) : zcall w (d + 1) 23 [zA 2 2 a0] σ =
  (zcall w d 340 [zJ (σ a0 0)] σ).bind fun r1 => some (0, zup r1.2 a0 0 r1.1) :=
  (zcall_eq rfl).trans (zunr_eq w zc_X1_becomeAmount [] (d + 1) 23 rfl 56 _ _ _ _).symm
set_option maxRecDepth 100000 in
theorem eX1_lessen (w : zW) (d : Nat) (a0 x1 x2 : Int) (σ : zMem) : zcall w (d + 1) 24 [zA 2 2 a0, zI x1, zI x2] σ =
  (zcall w d 17 [zA 2 2 a0, zJ (zar 13 (zar 14 (σ a0 0) x2) (zar 14 x1 (σ a0 1))), zJ (zar 14 (σ a0 1) x2)] σ).bind fun r1 => some (0, r1.2) :=
  (zcall_eq rfl).trans (zunr_eq w zc_X1_lessen [] (d + 1) 24 rfl 69 _ _ _ _).symm
set_option maxRecDepth 100000 in
theorem eX1_mix (w : zW) (d : Nat) (a0 a1 x2 x3 : Int) (σ : zMem) : zcall w (d + 1) 25 [zA 2 2 a0, zA 2 2 a1, zI x2, zI x3] σ =
  (zcall w d 17 [zA 2 2 a0, zJ (zar 12 (zar 14 (zar 14 (σ a0 0) (σ a1 1)) (zar 1 x2 x3)) (zar 14 (zar 14 (σ a1 0) (σ a0 1)) x3)), zJ (zar 14 (zar 14 (σ a0 1) (σ a1 1)) x2)] σ).bind fun r1 => some (0, r1.2) :=
  (zcall_eq rfl).trans (zunr_eq w zc_X1_mix [] (d + 1) 25 rfl 80 _ _ _ _).symm
set_option maxRecDepth 100000 in
theorem eX2_isUnder (w : zW) (d : Nat) (x1 x2 : Int) (σ : zMem) : zcall w d 26 [zI x1, zI x2] σ =
  zden w d 26 4 [zI x1, zI x2, zI x1, zI 0] [] σ :=
  (zcall_eq rfl).trans (zunr_eq w zc_X2_isUnder [4] d 26 rfl 79 _ _ _ _).symm
set_option maxRecDepth 100000 in
theorem hX2_isUnder_4 (w : zW) (d : Nat) (x2 x3 : Int) (v0 : zV) (σ : zMem) : zden w d 26 4 [v0, zI x2, zI x2, zI x3] [] σ =
  if x3 < 18 then if x2 = x2 then some (1, σ) else if x2 < 0 then some (0, σ) else if x2 < 18 then if (0 : Int) ≤ x2 ∧ x2 < 18 then zden w d 26 4 [v0, zI x2, zI (zR w (-2) x2), zI (zar 0 x3 1)] [] σ else none else some (0, σ) else some (0, σ) :=
  (zunr_eq w zc_X2_isUnder [4] d 26 rfl 79 _ _ _ _).symm
set_option maxRecDepth 100000 in
theorem eX2_isSolid (w : zW) (d : Nat) (x1 : Int) (σ : zMem) : zcall w d 27 [zI x1] σ =
  if x1 < 3 then some (0, σ) else if 5 < x1 then some (0, σ) else some (1, σ) :=
  (zcall_eq rfl).trans (zunr_eq w zc_X2_isSolid [] d 27 rfl 60 _ _ _ _).symm
set_option maxRecDepth 100000 in
theorem eX2_isPair (w : zW) (d : Nat) (x1 : Int) (σ : zMem) : zcall w d 28 [zI x1] σ =
  if x1 < 8 then some (0, σ) else if 11 < x1 then some (0, σ) else some (1, σ) :=
  (zcall_eq rfl).trans (zunr_eq w zc_X2_isPair [] d 28 rfl 60 _ _ _ _).symm
set_option maxRecDepth 100000 in
theorem eX2_numbersOf (w : zW) (d : Nat) (x1 : Int) (σ : zMem) : zcall w d 29 [zI x1] σ =
  if x1 < 0 then some (0, σ) else if x1 < 18 then if (0 : Int) ≤ x1 ∧ x1 < 18 then some (zR w (-3) x1, σ) else none else some (0, σ) :=
  (zcall_eq rfl).trans (zunr_eq w zc_X2_numbersOf [] d 29 rfl 62 _ _ _ _).symm
set_option maxRecDepth 100000 in
theorem eX2_allMayBe (w : zW) (d : Nat) (x1 n2 a2 : Int) (σ : zMem) : zcall w (d + 1) 30 [zI x1, zA 20 n2 a2] σ =
  zden w (d + 1) 30 2 [zI x1, zA 20 n2 a2, zI 0] [] σ :=
  (zcall_eq rfl).trans (zunr_eq w zc_X2_allMayBe [2] (d + 1) 30 rfl 67 _ _ _ _).symm
set_option maxRecDepth 100000 in
theorem hX2_allMayBe_2 (w : zW) (d : Nat) (x1 n2 a2 x2 : Int) (σ : zMem) : zden w (d + 1) 30 2 [zI x1, zA 20 n2 a2, zI x2] [] σ =
  (zcall w d 29 [zI x1] σ).bind fun r1 => if x2 < r1.1 then (zcall w d 31 [zI x1, zI x2, zA 20 n2 a2] r1.2).bind fun r2 => if r2.1 = 0 then some (0, r2.2) else zden w (d + 1) 30 2 [zI x1, zA 20 n2 a2, zI (zar 0 x2 1)] [] r2.2 else some (1, r1.2) :=
  (zunr_eq w zc_X2_allMayBe [2] (d + 1) 30 rfl 67 _ _ _ _).symm
set_option maxRecDepth 100000 in
theorem eX2_mayBe (w : zW) (d : Nat) (x1 x2 n3 a3 : Int) (σ : zMem) : zcall w (d + 1) 31 [zI x1, zI x2, zA 20 n3 a3] σ =
  if x2 < 0 then some (0, σ) else if x2 < n3 then if (0 : Int) ≤ x2 ∧ x2 < n3 then if x1 = 3 then zden w (d + 1) 31 14 [zI x1, zI x2, zA 20 n3 a3, zI (σ a3 x2)] [] σ else if x1 = 4 then zden w (d + 1) 31 25 [zI x1, zI x2, zA 20 n3 a3, zI (σ a3 x2)] [] σ else if x1 = 5 then zden w (d + 1) 31 42 [zI x1, zI x2, zA 20 n3 a3, zI (σ a3 x2)] [] σ else if x1 = 6 then zden w (d + 1) 31 130 [zI x1, zI x2, zA 20 n3 a3, zI (σ a3 x2)] [] σ else if x1 = 7 then zden w (d + 1) 31 130 [zI x1, zI x2, zA 20 n3 a3, zI (σ a3 x2)] [] σ else if x1 = 8 then zden w (d + 1) 31 130 [zI x1, zI x2, zA 20 n3 a3, zI (σ a3 x2)] [] σ else if x1 = 9 then zden w (d + 1) 31 130 [zI x1, zI x2, zA 20 n3 a3, zI (σ a3 x2)] [] σ else if x1 = 10 then zden w (d + 1) 31 130 [zI x1, zI x2, zA 20 n3 a3, zI (σ a3 x2)] [] σ else if x1 = 11 then zden w (d + 1) 31 55 [zI x1, zI x2, zA 20 n3 a3, zI (σ a3 x2)] [] σ else if x1 = 12 then zden w (d + 1) 31 69 [zI x1, zI x2, zA 20 n3 a3, zI (σ a3 x2)] [] σ else if x1 = 13 then zden w (d + 1) 31 72 [zI x1, zI x2, zA 20 n3 a3, zI (σ a3 x2)] [] σ else if x1 = 14 then zden w (d + 1) 31 82 [zI x1, zI x2, zA 20 n3 a3, zI (σ a3 x2)] [] σ else if x1 = 15 then zden w (d + 1) 31 92 [zI x1, zI x2, zA 20 n3 a3, zI (σ a3 x2)] [] σ else if x1 = 16 then zden w (d + 1) 31 106 [zI x1, zI x2, zA 20 n3 a3, zI (σ a3 x2)] [] σ else if x1 = 17 then zden w (d + 1) 31 118 [zI x1, zI x2, zA 20 n3 a3, zI (σ a3 x2)] [] σ else zden w (d + 1) 31 130 [zI x1, zI x2, zA 20 n3 a3, zI (σ a3 x2)] [] σ else none else some (0, σ) :=
  (zcall_eq rfl).trans (zunr_eq w zc_X2_mayBe [14, 25, 42, 55, 69, 72, 82, 92, 106, 118, 130] (d + 1) 31 rfl 182 _ _ _ _).symm
set_option maxRecDepth 100000 in
theorem hX2_mayBe_14 (w : zW) (d : Nat) (x2 x3 : Int) (v0 v2 : zV) (σ : zMem) : zden w (d + 1) 31 14 [v0, zI x2, v2, zI x3] [] σ =
  if x2 < 3 then (zcall w d 32 [zI x3] σ).bind fun r1 => if 0 ≤ r1.1 ∧ r1.1 ≤ 1 then some (r1.1, r1.2) else none else (zcall w d 200 [zI x3, zI 0, zI 40] σ).bind fun r2 => if 0 ≤ r2.1 ∧ r2.1 ≤ 1 then some (r2.1, r2.2) else none :=
  (zunr_eq w zc_X2_mayBe [14, 25, 42, 55, 69, 72, 82, 92, 106, 118, 130] (d + 1) 31 rfl 182 _ _ _ _).symm
set_option maxRecDepth 100000 in
theorem hX2_mayBe_25 (w : zW) (d : Nat) (x2 n3 a3 x3 : Int) (v0 : zV) (σ : zMem) : zden w (d + 1) 31 25 [v0, zI x2, zA 20 n3 a3, zI x3] [] σ =
  (zcall w d 32 [zI x3] σ).bind fun r1 => if r1.1 = 0 then some (0, r1.2) else if x2 < 3 then some (1, r1.2) else if (0 : Int) ≤ (zar 1 x2 3) ∧ (zar 1 x2 3) < n3 then if x3 < (r1.2 a3 (zar 1 x2 3)) then some (0, r1.2) else some (1, r1.2) else none :=
  (zunr_eq w zc_X2_mayBe [14, 25, 42, 55, 69, 72, 82, 92, 106, 118, 130] (d + 1) 31 rfl 182 _ _ _ _).symm
set_option maxRecDepth 100000 in
theorem hX2_mayBe_42 (w : zW) (d : Nat) (x2 x3 : Int) (v0 v2 : zV) (σ : zMem) : zden w (d + 1) 31 42 [v0, zI x2, v2, zI x3] [] σ =
  if x2 < 3 then (zcall w d 200 [zI x3, zI (-9), zI 9] σ).bind fun r1 => if 0 ≤ r1.1 ∧ r1.1 ≤ 1 then some (r1.1, r1.2) else none else (zcall w d 200 [zI x3, zI (-999), zI 999] σ).bind fun r2 => if 0 ≤ r2.1 ∧ r2.1 ≤ 1 then some (r2.1, r2.2) else none :=
  (zunr_eq w zc_X2_mayBe [14, 25, 42, 55, 69, 72, 82, 92, 106, 118, 130] (d + 1) 31 rfl 182 _ _ _ _).symm
set_option maxRecDepth 100000 in
theorem hX2_mayBe_55 (w : zW) (d : Nat) (x2 n3 a3 x3 : Int) (v0 : zV) (σ : zMem) : zden w (d + 1) 31 55 [v0, zI x2, zA 20 n3 a3, zI x3] [] σ =
  if x2 = 0 then (zcall w d 200 [zI x3, zI 1, zI 9] σ).bind fun r1 => if 0 ≤ r1.1 ∧ r1.1 ≤ 1 then some (r1.1, r1.2) else none else if (0 : Int) ≤ 0 ∧ 0 < n3 then (zcall w d 200 [zI x3, zI 0, zI (σ a3 0)] σ).bind fun r2 => if 0 ≤ r2.1 ∧ r2.1 ≤ 1 then some (r2.1, r2.2) else none else none :=
  (zunr_eq w zc_X2_mayBe [14, 25, 42, 55, 69, 72, 82, 92, 106, 118, 130] (d + 1) 31 rfl 182 _ _ _ _).symm
set_option maxRecDepth 100000 in
theorem hX2_mayBe_69 (w : zW) (d : Nat) (x3 : Int) (v0 v1 v2 : zV) (σ : zMem) : zden w (d + 1) 31 69 [v0, v1, v2, zI x3] [] σ =
  (zcall w d 32 [zI x3] σ).bind fun r1 => if 0 ≤ r1.1 ∧ r1.1 ≤ 1 then some (r1.1, r1.2) else none :=
  (zunr_eq w zc_X2_mayBe [14, 25, 42, 55, 69, 72, 82, 92, 106, 118, 130] (d + 1) 31 rfl 182 _ _ _ _).symm
set_option maxRecDepth 100000 in
theorem hX2_mayBe_72 (w : zW) (d : Nat) (x2 x3 : Int) (v0 v2 : zV) (σ : zMem) : zden w (d + 1) 31 72 [v0, zI x2, v2, zI x3] [] σ =
  if x2 = 0 then (zcall w d 203 [zI x3] σ).bind fun r1 => if 0 ≤ r1.1 ∧ r1.1 ≤ 1 then some (r1.1, r1.2) else none else (zcall w d 200 [zI x3, zI 1, zI 16] σ).bind fun r2 => if 0 ≤ r2.1 ∧ r2.1 ≤ 1 then some (r2.1, r2.2) else none :=
  (zunr_eq w zc_X2_mayBe [14, 25, 42, 55, 69, 72, 82, 92, 106, 118, 130] (d + 1) 31 rfl 182 _ _ _ _).symm
set_option maxRecDepth 100000 in
theorem hX2_mayBe_82 (w : zW) (d : Nat) (x2 x3 : Int) (v0 v2 : zV) (σ : zMem) : zden w (d + 1) 31 82 [v0, zI x2, v2, zI x3] [] σ =
  if x2 = 0 then (zcall w d 203 [zI x3] σ).bind fun r1 => if 0 ≤ r1.1 ∧ r1.1 ≤ 1 then some (r1.1, r1.2) else none else (zcall w d 200 [zI x3, zI 0, zI 15] σ).bind fun r2 => if 0 ≤ r2.1 ∧ r2.1 ≤ 1 then some (r2.1, r2.2) else none :=
  (zunr_eq w zc_X2_mayBe [14, 25, 42, 55, 69, 72, 82, 92, 106, 118, 130] (d + 1) 31 rfl 182 _ _ _ _).symm
set_option maxRecDepth 100000 in
theorem hX2_mayBe_92 (w : zW) (d : Nat) (x2 n3 a3 x3 : Int) (v0 : zV) (σ : zMem) : zden w (d + 1) 31 92 [v0, zI x2, zA 20 n3 a3, zI x3] [] σ =
  (zcall w d 203 [zI x3] σ).bind fun r1 => if r1.1 = 0 then some (0, r1.2) else if x2 = 0 then some (1, r1.2) else if (0 : Int) ≤ 0 ∧ 0 < n3 then if x3 = (r1.2 a3 0) then some (0, r1.2) else some (1, r1.2) else none :=
  (zunr_eq w zc_X2_mayBe [14, 25, 42, 55, 69, 72, 82, 92, 106, 118, 130] (d + 1) 31 rfl 182 _ _ _ _).symm
set_option maxRecDepth 100000 in
theorem hX2_mayBe_106 (w : zW) (d : Nat) (x2 x3 : Int) (v0 v2 : zV) (σ : zMem) : zden w (d + 1) 31 106 [v0, zI x2, v2, zI x3] [] σ =
  if x2 = 0 then (zcall w d 200 [zI x3, zI (-99), zI 99] σ).bind fun r1 => if 0 ≤ r1.1 ∧ r1.1 ≤ 1 then some (r1.1, r1.2) else none else (zcall w d 200 [zI x3, zI 1, zI 9] σ).bind fun r2 => if 0 ≤ r2.1 ∧ r2.1 ≤ 1 then some (r2.1, r2.2) else none :=
  (zunr_eq w zc_X2_mayBe [14, 25, 42, 55, 69, 72, 82, 92, 106, 118, 130] (d + 1) 31 rfl 182 _ _ _ _).symm
set_option maxRecDepth 100000 in
theorem hX2_mayBe_118 (w : zW) (d : Nat) (x2 x3 : Int) (v0 v2 : zV) (σ : zMem) : zden w (d + 1) 31 118 [v0, zI x2, v2, zI x3] [] σ =
  if x2 = 0 then (zcall w d 200 [zI x3, zI 0, zI 99] σ).bind fun r1 => if 0 ≤ r1.1 ∧ r1.1 ≤ 1 then some (r1.1, r1.2) else none else (zcall w d 200 [zI x3, zI 1, zI 9] σ).bind fun r2 => if 0 ≤ r2.1 ∧ r2.1 ≤ 1 then some (r2.1, r2.2) else none :=
  (zunr_eq w zc_X2_mayBe [14, 25, 42, 55, 69, 72, 82, 92, 106, 118, 130] (d + 1) 31 rfl 182 _ _ _ _).symm
set_option maxRecDepth 100000 in
theorem hX2_mayBe_130 (w : zW) (d : Nat) (v0 v1 v2 v3 : zV) (σ : zMem) : zden w (d + 1) 31 130 [v0, v1, v2, v3] [] σ =
  some (0, σ) :=
  (zunr_eq w zc_X2_mayBe [14, 25, 42, 55, 69, 72, 82, 92, 106, 118, 130] (d + 1) 31 rfl 182 _ _ _ _).symm
set_option maxRecDepth 100000 in
theorem eX2_isSpot (w : zW) (d : Nat) (x1 : Int) (σ : zMem) : zcall w (d + 1) 32 [zI x1] σ =
  (zcall w d 200 [zI x1, zI (-40), zI 55] σ).bind fun r1 => if 0 ≤ r1.1 ∧ r1.1 ≤ 1 then some (r1.1, r1.2) else none :=
  (zcall_eq rfl).trans (zunr_eq w zc_X2_isSpot [] (d + 1) 32 rfl 55 _ _ _ _).symm
set_option maxRecDepth 100000 in
theorem eX2_mayHaveMinus (w : zW) (d : Nat) (x1 x2 : Int) (σ : zMem) : zcall w d 33 [zI x1, zI x2] σ =
  if x1 = 3 then if x2 < 3 then some (1, σ) else some (0, σ) else if x1 = 4 then some (1, σ) else if x1 = 5 then some (1, σ) else if x1 = 6 then some (0, σ) else if x1 = 7 then some (0, σ) else if x1 = 8 then some (0, σ) else if x1 = 9 then some (0, σ) else if x1 = 10 then some (0, σ) else if x1 = 11 then some (0, σ) else if x1 = 12 then some (1, σ) else if x1 = 13 then some (0, σ) else if x1 = 14 then some (0, σ) else if x1 = 15 then some (0, σ) else if x1 = 16 then if x2 = 0 then some (1, σ) else some (0, σ) else some (0, σ) :=
  (zcall_eq rfl).trans (zunr_eq w zc_X2_mayHaveMinus [] d 33 rfl 69 _ _ _ _).symm
set_option maxRecDepth 100000 in
theorem eX2_wordOf (w : zW) (d : Nat) (x1 : Int) (σ : zMem) : zcall w d 34 [zI x1] σ =
  if x1 = 3 then some (-11, σ) else if x1 = 4 then some (-13, σ) else if x1 = 5 then some (-17, σ) else if x1 = 6 then some (-10, σ) else if x1 = 7 then some (-10, σ) else if x1 = 8 then some (-23, σ) else if x1 = 9 then some (-14, σ) else if x1 = 10 then some (-15, σ) else if x1 = 11 then some (-12, σ) else if x1 = 12 then some (-21, σ) else if x1 = 13 then some (-19, σ) else if x1 = 14 then some (-18, σ) else if x1 = 15 then some (-22, σ) else if x1 = 16 then some (-16, σ) else if x1 = 17 then some (-20, σ) else some (-10, σ) :=
  (zcall_eq rfl).trans (zunr_eq w zc_X2_wordOf [] d 34 rfl 80 _ _ _ _).symm
set_option maxRecDepth 100000 in
theorem eX3_forgetFrom (w : zW) (d : Nat) (x1 : Int) (σ : zMem) : zcall w (d + 1) 36 [zA 4 5 85, zI x1] σ =
  (zcall w d 341 [zI 0, zI x1] σ).bind fun r1 => zden w (d + 1) 36 4 [zA 4 5 85, zI x1, zI r1.1] [] r1.2 :=
  (zcall_eq rfl).trans (zunr_eq w zc_X3_forgetFrom [4] (d + 1) 36 rfl 67 _ _ _ _).symm
set_option maxRecDepth 100000 in
theorem hX3_forgetFrom_4 (w : zW) (d : Nat) (x2 : Int) (v1 : zV) (σ : zMem) : zden w (d + 1) 36 4 [zA 4 5 85, v1, zI x2] [] σ =
  if x2 < 24 then if (0 : Int) ≤ x2 ∧ x2 < 24 then zden w (d + 1) 36 4 [zA 4 5 85, (zlng 0 v1), zI (zar 0 x2 1)] [] (zup σ 87 x2 0) else none else some (0, σ) :=
  (zunr_eq w zc_X3_forgetFrom [4] (d + 1) 36 rfl 67 _ _ _ _).symm
set_option maxRecDepth 100000 in
theorem eX3_placesOf (w : zW) (d : Nat) (a1 x2 : Int) (σ : zMem) : zcall w (d + 1) 37 [zA 4 5 85, zA 10 8 a1, zI x2] σ =
  if x2 < 0 then some (88, σ) else if x2 < 24 then if (0 : Int) ≤ x2 ∧ x2 < 24 then if (σ 87 x2) = 0 then if (0 : Int) ≤ x2 ∧ x2 < 24 then (zcall w d 52 [zA 6 1 (zR w 86 x2)] σ).bind fun r1 => (zcall w d 39 [zA 4 5 85, zA 10 8 a1, zI x2, zI 0, zI 16] r1.2).bind fun r2 => if (0 : Int) ≤ x2 ∧ x2 < 24 then some (zR w 86 x2, r2.2) else none else none else if (0 : Int) ≤ x2 ∧ x2 < 24 then some (zR w 86 x2, σ) else none else none else some (88, σ) :=
  (zcall_eq rfl).trans (zunr_eq w zc_X3_placesOf [] (d + 1) 37 rfl 81 _ _ _ _).symm
set_option maxRecDepth 100000 in
theorem eX3_lookedAt (w : zW) (d : Nat) (a1 x2 : Int) (σ : zMem) : zcall w (d + 1) 38 [zA 4 5 85, zA 10 8 a1, zI x2] σ =
  (zcall w d 37 [zA 4 5 85, zA 10 8 a1, zI x2] σ).bind fun r1 => if x2 < 0 then some (0, r1.2) else if x2 < 24 then if (0 : Int) ≤ x2 ∧ x2 < 24 then some (r1.2 87 x2, r1.2) else none else some (0, r1.2) :=
  (zcall_eq rfl).trans (zunr_eq w zc_X3_lookedAt [] (d + 1) 38 rfl 69 _ _ _ _).symm
set_option maxRecDepth 100000 in
theorem eX3_look (w : zW) (d : Nat) (a1 x2 x3 x4 : Int) (σ : zMem) : zcall w (d + 1) 39 [zA 4 5 85, zA 10 8 a1, zI x2, zI x3, zI x4] σ =
  if x2 < 0 then some (0, σ) else if x2 < 24 then if x4 < 1 then some (0, σ) else if (0 : Int) ≤ x2 ∧ x2 < 24 then if (0 : Int) ≤ x2 ∧ x2 < 24 then (zcall w d 209 [zI x3, zI 0] (zup σ 87 x2 (zar 0 (σ 87 x2) 1))).bind fun r1 => (zcall w d 209 [zI x3, zI 1] r1.2).bind fun r2 => (zcall w d 209 [zI x3, zI 2] r2.2).bind fun r3 => if x4 = 1 then (zcall w d 42 [zA 5 2 90, zA 10 8 a1, zI x2, zI r1.1, zI r2.1, zI r3.1] r3.2).bind fun r4 => (zcall w d 13 [zA 2 2 r4.1] r4.2).bind fun r5 => if r5.1 = 0 then if (0 : Int) ≤ x2 ∧ x2 < 24 then (zcall w d 50 [zA 6 1 (zR w 86 x2), zI x3] r5.2).bind fun r6 => some (0, r6.2) else none else some (0, r5.2) else (zcall w d 93 [zA 9 3 101, zI r1.1, zI r2.1, zI r3.1] r3.2).bind fun r7 => (zcall w d 94 [zA 9 3 101, zI (zar 1 (zar 0 r1.1 x4) 1), zI (zar 1 (zar 0 r2.1 x4) 1), zI (zar 1 (zar 0 r3.1 x4) 1)] r7.2).bind fun r8 => (zcall w d 97 [zA 9 3 101, zA 10 8 a1, zI x2] r8.2).bind fun r9 => (zcall w d 96 [zA 9 3 101] r9.2).bind fun r10 => (zcall w d 13 [zA 2 2 r10.1] r10.2).bind fun r11 => if r11.1 = 0 then if (0 : Int) ≤ x2 ∧ x2 < 24 then (zcall w d 51 [zA 6 1 (zR w 86 x2), zI r1.1, zI r2.1, zI r3.1, zI x4] r11.2).bind fun r12 => some (0, r12.2) else none else (zcall w d 95 [zA 9 3 101] r11.2).bind fun r13 => (zcall w d 13 [zA 2 2 r13.1] r13.2).bind fun r14 => if r14.1 = 0 then (zcall w d 40 [zA 4 5 85, zA 10 8 a1, zI x2, zI x3, zI (zar 3 x4 2)] r14.2).bind fun r15 => some (0, r15.2) else some (0, r14.2) else none else none else some (0, σ) :=
  (zcall_eq rfl).trans (zunr_eq w zc_X3_look [] (d + 1) 39 rfl 159 _ _ _ _).symm
set_option maxRecDepth 100000 in
theorem eX3_lookAtEighths (w : zW) (d : Nat) (a1 x2 x3 x4 : Int) (σ : zMem) : zcall w (d + 1) 40 [zA 4 5 85, zA 10 8 a1, zI x2, zI x3, zI x4] σ =
  zden w (d + 1) 40 2 [zA 4 5 85, zA 10 8 a1, zI x2, zI x3, zI x4, zI 0] [] σ :=
  (zcall_eq rfl).trans (zunr_eq w zc_X3_lookAtEighths [2] (d + 1) 40 rfl 83 _ _ _ _).symm
set_option maxRecDepth 100000 in
theorem hX3_lookAtEighths_2 (w : zW) (d : Nat) (a1 x2 x3 x4 x5 : Int) (σ : zMem) : zden w (d + 1) 40 2 [zA 4 5 85, zA 10 8 a1, zI x2, zI x3, zI x4, zI x5] [] σ =
  if x5 < 8 then (zcall w d 208 [zI (zar 2 (zar 3 x5 4) x4), zI (zar 2 (zar 4 (zar 3 x5 2) 2) x4), zI (zar 2 (zar 4 x5 2) x4)] σ).bind fun r1 => (zcall w d 39 [zA 4 5 85, zA 10 8 a1, zI x2, zI (zar 0 x3 r1.1), zI x4] r1.2).bind fun r2 => zden w (d + 1) 40 2 [zA 4 5 85, zA 10 8 a1, zI x2, zI x3, zI x4, zI (zar 0 x5 1)] [] r2.2 else some (0, σ) :=
  (zunr_eq w zc_X3_lookAtEighths [2] (d + 1) 40 rfl 83 _ _ _ _).symm
set_option maxRecDepth 100000 in
theorem eX4_worthAt (w : zW) (d : Nat) (a0 a1 x2 x3 x4 x5 : Int) (σ : zMem) : zcall w (d + 1) 42 [zA 5 2 a0, zA 10 8 a1, zI x2, zI x3, zI x4, zI x5] σ =
  (zcall w d 43 [zA 5 2 a0, zA 10 8 a1, zI x2, zI 0, zI 0] (zup (zup (zup σ (zR w a0 0) 0 x3) (zR w a0 0) 1 x4) (zR w a0 0) 2 x5)).bind fun r1 => some (zR w (zR w a0 1) 0, r1.2) :=
  (zcall_eq rfl).trans (zunr_eq w zc_X4_worthAt [] (d + 1) 42 rfl 76 _ _ _ _).symm
set_option maxRecDepth 100000 in
theorem eX4_find (w : zW) (d : Nat) (a0 a1 x2 x3 x4 : Int) (σ : zMem) : zcall w (d + 1) 43 [zA 5 2 a0, zA 10 8 a1, zI x2, zI x3, zI x4] σ =
  if x3 < 0 then some (0, σ) else if x4 < x3 then some (0, σ) else if x4 < 7 then (zcall w d 112 [zA 10 8 a1, zI x2] σ).bind fun r1 => (zcall w d 27 [zI r1.1] r1.2).bind fun r2 => if r2.1 = 0 then (zcall w d 28 [zI r1.1] r2.2).bind fun r3 => if r3.1 = 0 then (zcall w d 46 [zA 5 2 a0, zA 10 8 a1, zI x2, zI x3, zI x4] r3.2).bind fun r4 => some (0, r4.2) else (zcall w d 45 [zA 5 2 a0, zA 10 8 a1, zI x2, zI x3, zI x4] r3.2).bind fun r5 => some (0, r5.2) else if (0 : Int) ≤ x4 ∧ x4 < 8 then (zcall w d 44 [zA 5 2 a0, zA 10 8 a1, zI x2, zI r1.1, zI (zar 2 x3 3)] r2.2).bind fun r6 => (zcall w d 16 [zA 2 2 (zR w (zR w a0 1) x4), zJ r6.1] r6.2).bind fun r7 => some (0, r7.2) else none else some (0, σ) :=
  (zcall_eq rfl).trans (zunr_eq w zc_X4_find [] (d + 1) 43 rfl 98 _ _ _ _).symm
set_option maxRecDepth 100000 in
theorem eX4_ofSolid (w : zW) (d : Nat) (a0 a1 x2 x3 x4 : Int) (σ : zMem) : zcall w (d + 1) 44 [zA 5 2 a0, zA 10 8 a1, zI x2, zI x3, zI x4] σ =
  zden w (d + 1) 44 6 [zA 5 2 a0, zA 10 8 a1, zI x2, zI x3, zI x4, zI 0, zI (-1000000000), zI 0, zU, zU] [] σ :=
  (zcall_eq rfl).trans (zunr_eq w zc_X4_ofSolid [6] (d + 1) 44 rfl 130 _ _ _ _).symm
set_option maxRecDepth 100000 in
theorem hX4_ofSolid_6 (w : zW) (d : Nat) (a0 a1 x2 x3 x4 x5 x6 x7 : Int) (v8 v9 : zV) (σ : zMem) : zden w (d + 1) 44 6 [zA 5 2 a0, zA 10 8 a1, zI x2, zI x3, zI x4, zI x5, zI x6, zI x7, v8, v9] [] σ =
  if x7 < 3 then if (0 : Int) ≤ (zar 0 x4 x7) ∧ (zar 0 x4 x7) < 24 then (zcall w d 118 [zA 10 8 a1, zI x2, zI x7] σ).bind fun r1 => if x3 = 4 then (zcall w d 118 [zA 10 8 a1, zI x2, zI (zar 0 x7 3)] r1.2).bind fun r2 => (zcall w d 341 [zI (zar 1 r1.1 (σ (zR w a0 0) (zar 0 x4 x7))), zI (zar 1 (σ (zR w a0 0) (zar 0 x4 x7)) r2.1)] r2.2).bind fun r3 => (zcall w d 341 [zI x6, zI r3.1] r3.2).bind fun r4 => zden w (d + 1) 44 6 [zA 5 2 a0, zA 10 8 a1, zI x2, zI x3, zI x4, zI x5, zI r4.1, zI (zar 0 x7 1), zI (σ (zR w a0 0) (zar 0 x4 x7)), zI r1.1] [] r4.2 else if x3 = 3 then zden w (d + 1) 44 6 [zA 5 2 a0, zA 10 8 a1, zI x2, zI x3, zI x4, zI (zar 0 x5 (zar 2 (zar 1 (σ (zR w a0 0) (zar 0 x4 x7)) r1.1) (zar 1 (σ (zR w a0 0) (zar 0 x4 x7)) r1.1))), zI x6, zI (zar 0 x7 1), zI (σ (zR w a0 0) (zar 0 x4 x7)), zI r1.1] [] r1.2 else zden w (d + 1) 44 6 [zA 5 2 a0, zA 10 8 a1, zI x2, zI x3, zI x4, zI (zar 0 x5 (zar 2 r1.1 (σ (zR w a0 0) (zar 0 x4 x7)))), zI x6, zI (zar 0 x7 1), zI (σ (zR w a0 0) (zar 0 x4 x7)), zI r1.1] [] r1.2 else none else (zcall w d 118 [zA 10 8 a1, zI x2, zI 3] σ).bind fun r5 => if x3 = 4 then some (x6, r5.2) else if x3 = 3 then some (zar 1 x5 (zar 2 r5.1 r5.1), r5.2) else some (zar 1 x5 r5.1, r5.2) :=
  (zunr_eq w zc_X4_ofSolid [6] (d + 1) 44 rfl 130 _ _ _ _).symm
set_option maxRecDepth 100000 in
theorem eX4_ofPair (w : zW) (d : Nat) (a0 a1 x2 x3 x4 : Int) (σ : zMem) : zcall w (d + 1) 45 [zA 5 2 a0, zA 10 8 a1, zI x2, zI x3, zI x4] σ =
  (zcall w d 113 [zA 10 8 a1, zI x2] σ).bind fun r1 => (zcall w d 114 [zA 10 8 a1, zI x2] r1.2).bind fun r2 => (zcall w d 43 [zA 5 2 a0, zA 10 8 a1, zI r1.1, zI x3, zI (zar 0 x4 1)] r2.2).bind fun r3 => if (0 : Int) ≤ x4 ∧ x4 < 8 then if (0 : Int) ≤ (zar 0 x4 1) ∧ (zar 0 x4 1) < 8 then (zcall w d 18 [zA 2 2 (zR w (zR w a0 1) x4), zA 2 2 (zR w (zR w a0 1) (zar 0 x4 1))] r3.2).bind fun r4 => if r2.1 = r1.1 then (zcall w d 112 [zA 10 8 a1, zI x2] r4.2).bind fun r5 => if r5.1 = 8 then zden w (d + 1) 45 46 [zA 5 2 a0, zA 10 8 a1, zI x2, zI x3, zI x4, zI r1.1, zI r2.1, zA 2 2 (zR w (zR w a0 1) x4), zA 2 2 (zR w (zR w a0 1) (zar 0 x4 1))] [] r5.2 else if r5.1 = 9 then zden w (d + 1) 45 50 [zA 5 2 a0, zA 10 8 a1, zI x2, zI x3, zI x4, zI r1.1, zI r2.1, zA 2 2 (zR w (zR w a0 1) x4), zA 2 2 (zR w (zR w a0 1) (zar 0 x4 1))] [] r5.2 else if r5.1 = 10 then zden w (d + 1) 45 54 [zA 5 2 a0, zA 10 8 a1, zI x2, zI x3, zI x4, zI r1.1, zI r2.1, zA 2 2 (zR w (zR w a0 1) x4), zA 2 2 (zR w (zR w a0 1) (zar 0 x4 1))] [] r5.2 else zden w (d + 1) 45 60 [zA 5 2 a0, zA 10 8 a1, zI x2, zI x3, zI x4, zI r1.1, zI r2.1, zA 2 2 (zR w (zR w a0 1) x4), zA 2 2 (zR w (zR w a0 1) (zar 0 x4 1))] [] r5.2 else (zcall w d 43 [zA 5 2 a0, zA 10 8 a1, zI r2.1, zI x3, zI (zar 0 x4 1)] r4.2).bind fun r6 => (zcall w d 112 [zA 10 8 a1, zI x2] r6.2).bind fun r7 => if r7.1 = 8 then zden w (d + 1) 45 46 [zA 5 2 a0, zA 10 8 a1, zI x2, zI x3, zI x4, zI r1.1, zI r2.1, zA 2 2 (zR w (zR w a0 1) x4), zA 2 2 (zR w (zR w a0 1) (zar 0 x4 1))] [] r7.2 else if r7.1 = 9 then zden w (d + 1) 45 50 [zA 5 2 a0, zA 10 8 a1, zI x2, zI x3, zI x4, zI r1.1, zI r2.1, zA 2 2 (zR w (zR w a0 1) x4), zA 2 2 (zR w (zR w a0 1) (zar 0 x4 1))] [] r7.2 else if r7.1 = 10 then zden w (d + 1) 45 54 [zA 5 2 a0, zA 10 8 a1, zI x2, zI x3, zI x4, zI r1.1, zI r2.1, zA 2 2 (zR w (zR w a0 1) x4), zA 2 2 (zR w (zR w a0 1) (zar 0 x4 1))] [] r7.2 else zden w (d + 1) 45 60 [zA 5 2 a0, zA 10 8 a1, zI x2, zI x3, zI x4, zI r1.1, zI r2.1, zA 2 2 (zR w (zR w a0 1) x4), zA 2 2 (zR w (zR w a0 1) (zar 0 x4 1))] [] r7.2 else none else none :=
  (zcall_eq rfl).trans (zunr_eq w zc_X4_ofPair [46, 50, 54, 60] (d + 1) 45 rfl 122 _ _ _ _).symm
set_option maxRecDepth 100000 in
theorem hX4_ofPair_46 (w : zW) (d : Nat) (a7 a8 : Int) (v0 v1 v2 v3 v4 v5 v6 : zV) (σ : zMem) : zden w (d + 1) 45 46 [v0, v1, v2, v3, v4, v5, v6, zA 2 2 a7, zA 2 2 a8] [] σ =
  (zcall w d 19 [zA 2 2 a7, zA 2 2 a8] σ).bind fun r1 => some (0, r1.2) :=
  (zunr_eq w zc_X4_ofPair [46, 50, 54, 60] (d + 1) 45 rfl 122 _ _ _ _).symm
set_option maxRecDepth 100000 in
theorem hX4_ofPair_50 (w : zW) (d : Nat) (a7 a8 : Int) (v0 v1 v2 v3 v4 v5 v6 : zV) (σ : zMem) : zden w (d + 1) 45 50 [v0, v1, v2, v3, v4, v5, v6, zA 2 2 a7, zA 2 2 a8] [] σ =
  (zcall w d 20 [zA 2 2 a7, zA 2 2 a8] σ).bind fun r1 => some (0, r1.2) :=
  (zunr_eq w zc_X4_ofPair [46, 50, 54, 60] (d + 1) 45 rfl 122 _ _ _ _).symm
set_option maxRecDepth 100000 in
theorem hX4_ofPair_54 (w : zW) (d : Nat) (a7 a8 : Int) (v0 v1 v2 v3 v4 v5 v6 : zV) (σ : zMem) : zden w (d + 1) 45 54 [v0, v1, v2, v3, v4, v5, v6, zA 2 2 a7, zA 2 2 a8] [] σ =
  (zcall w d 22 [zA 2 2 a8] σ).bind fun r1 => (zcall w d 20 [zA 2 2 a7, zA 2 2 a8] r1.2).bind fun r2 => some (0, r2.2) :=
  (zunr_eq w zc_X4_ofPair [46, 50, 54, 60] (d + 1) 45 rfl 122 _ _ _ _).symm
set_option maxRecDepth 100000 in
theorem hX4_ofPair_60 (w : zW) (d : Nat) (a1 x2 a7 a8 : Int) (v0 v3 v4 v5 v6 : zV) (σ : zMem) : zden w (d + 1) 45 60 [v0, zA 10 8 a1, zI x2, v3, v4, v5, v6, zA 2 2 a7, zA 2 2 a8] [] σ =
  (zcall w d 118 [zA 10 8 a1, zI x2, zI 0] σ).bind fun r1 => (zcall w d 118 [zA 10 8 a1, zI x2, zI 1] r1.2).bind fun r2 => (zcall w d 25 [zA 2 2 a7, zA 2 2 a8, zI r1.1, zI r2.1] r2.2).bind fun r3 => some (0, r3.2) :=
  (zunr_eq w zc_X4_ofPair [46, 50, 54, 60] (d + 1) 45 rfl 122 _ _ _ _).symm
set_option maxRecDepth 100000 in
theorem eX4_ofChange (w : zW) (d : Nat) (a0 a1 x2 x3 x4 : Int) (σ : zMem) : zcall w (d + 1) 46 [zA 5 2 a0, zA 10 8 a1, zI x2, zI x3, zI x4] σ =
  (zcall w d 112 [zA 10 8 a1, zI x2] σ).bind fun r1 => if r1.1 = 16 then (zcall w d 113 [zA 10 8 a1, zI x2] r1.2).bind fun r2 => (zcall w d 43 [zA 5 2 a0, zA 10 8 a1, zI r2.1, zI x3, zI (zar 0 x4 1)] r2.2).bind fun r3 => if (0 : Int) ≤ x4 ∧ x4 < 8 then if (0 : Int) ≤ (zar 0 x4 1) ∧ (zar 0 x4 1) < 8 then (zcall w d 18 [zA 2 2 (zR w (zR w a0 1) x4), zA 2 2 (zR w (zR w a0 1) (zar 0 x4 1))] r3.2).bind fun r4 => if r1.1 = 17 then if (0 : Int) ≤ x4 ∧ x4 < 8 then (zcall w d 23 [zA 2 2 (zR w (zR w a0 1) x4)] r4.2).bind fun r5 => if (0 : Int) ≤ x4 ∧ x4 < 8 then (zcall w d 118 [zA 10 8 a1, zI x2, zI 0] r5.2).bind fun r6 => (zcall w d 118 [zA 10 8 a1, zI x2, zI 1] r6.2).bind fun r7 => (zcall w d 24 [zA 2 2 (zR w (zR w a0 1) x4), zI r6.1, zI r7.1] r7.2).bind fun r8 => some (0, r8.2) else none else none else if (0 : Int) ≤ x4 ∧ x4 < 8 then (zcall w d 118 [zA 10 8 a1, zI x2, zI 0] r4.2).bind fun r9 => (zcall w d 118 [zA 10 8 a1, zI x2, zI 1] r9.2).bind fun r10 => (zcall w d 24 [zA 2 2 (zR w (zR w a0 1) x4), zI r9.1, zI r10.1] r10.2).bind fun r11 => some (0, r11.2) else none else none else none else if r1.1 = 17 then (zcall w d 113 [zA 10 8 a1, zI x2] r1.2).bind fun r12 => (zcall w d 43 [zA 5 2 a0, zA 10 8 a1, zI r12.1, zI x3, zI (zar 0 x4 1)] r12.2).bind fun r13 => if (0 : Int) ≤ x4 ∧ x4 < 8 then if (0 : Int) ≤ (zar 0 x4 1) ∧ (zar 0 x4 1) < 8 then (zcall w d 18 [zA 2 2 (zR w (zR w a0 1) x4), zA 2 2 (zR w (zR w a0 1) (zar 0 x4 1))] r13.2).bind fun r14 => if r1.1 = 17 then if (0 : Int) ≤ x4 ∧ x4 < 8 then (zcall w d 23 [zA 2 2 (zR w (zR w a0 1) x4)] r14.2).bind fun r15 => if (0 : Int) ≤ x4 ∧ x4 < 8 then (zcall w d 118 [zA 10 8 a1, zI x2, zI 0] r15.2).bind fun r16 => (zcall w d 118 [zA 10 8 a1, zI x2, zI 1] r16.2).bind fun r17 => (zcall w d 24 [zA 2 2 (zR w (zR w a0 1) x4), zI r16.1, zI r17.1] r17.2).bind fun r18 => some (0, r18.2) else none else none else if (0 : Int) ≤ x4 ∧ x4 < 8 then (zcall w d 118 [zA 10 8 a1, zI x2, zI 0] r14.2).bind fun r19 => (zcall w d 118 [zA 10 8 a1, zI x2, zI 1] r19.2).bind fun r20 => (zcall w d 24 [zA 2 2 (zR w (zR w a0 1) x4), zI r19.1, zI r20.1] r20.2).bind fun r21 => some (0, r21.2) else none else none else none else (zcall w d 47 [zA 5 2 a0, zA 10 8 a1, zI x2, zI (zar 2 x3 3)] r1.2).bind fun r22 => (zcall w d 113 [zA 10 8 a1, zI x2] r22.2).bind fun r23 => (zcall w d 43 [zA 5 2 a0, zA 10 8 a1, zI r23.1, zI (zar 0 x3 1), zI (zar 0 x4 1)] r23.2).bind fun r24 => if (0 : Int) ≤ x4 ∧ x4 < 8 then if (0 : Int) ≤ (zar 0 x4 1) ∧ (zar 0 x4 1) < 8 then (zcall w d 18 [zA 2 2 (zR w (zR w a0 1) x4), zA 2 2 (zR w (zR w a0 1) (zar 0 x4 1))] r24.2).bind fun r25 => some (0, r25.2) else none else none :=
  (zcall_eq rfl).trans (zunr_eq w zc_X4_ofChange [] (d + 1) 46 rfl 134 _ _ _ _).symm
set_option maxRecDepth 100000 in
theorem eX4_move (w : zW) (d : Nat) (a0 a1 x2 x3 : Int) (σ : zMem) : zcall w (d + 1) 47 [zA 5 2 a0, zA 10 8 a1, zI x2, zI x3] σ =
  (zcall w d 112 [zA 10 8 a1, zI x2] σ).bind fun r1 => (zcall w d 118 [zA 10 8 a1, zI x2, zI 0] r1.2).bind fun r2 => (zcall w d 118 [zA 10 8 a1, zI x2, zI 1] r2.2).bind fun r3 => zden w (d + 1) 47 20 [zA 5 2 a0, zA 10 8 a1, zI x2, zI x3, zI (zar 0 x3 3), zI r1.1, zI r2.1, zI r3.1, zI 0, zU] [] r3.2 :=
  (zcall_eq rfl).trans (zunr_eq w zc_X4_move [20, 54, 70, 93, 96] (d + 1) 47 rfl 156 _ _ _ _).symm
set_option maxRecDepth 100000 in
theorem hX4_move_20 (w : zW) (d : Nat) (a0 a1 x2 x3 x4 x5 x6 x7 x8 : Int) (v9 : zV) (σ : zMem) : zden w (d + 1) 47 20 [zA 5 2 a0, zA 10 8 a1, zI x2, zI x3, zI x4, zI x5, zI x6, zI x7, zI x8, v9] [] σ =
  if x8 < 3 then if (0 : Int) ≤ (zar 0 x3 x8) ∧ (zar 0 x3 x8) < 24 then if x5 = 12 then (zcall w d 118 [zA 10 8 a1, zI x2, zI x8] σ).bind fun r1 => zden w (d + 1) 47 96 [zA 5 2 a0, zA 10 8 a1, zI x2, zI x3, zI x4, zI x5, zI x6, zI x7, zI x8, zI (zar 1 (σ (zR w a0 0) (zar 0 x3 x8)) r1.1)] [] r1.2 else if x5 = 13 then if x8 = x6 then if 0 < x7 then (zcall w d 339 [zI (σ (zR w a0 0) (zar 0 x3 x8)), zI x7] σ).bind fun r2 => zden w (d + 1) 47 96 [zA 5 2 a0, zA 10 8 a1, zI x2, zI x3, zI x4, zI x5, zI x6, zI x7, zI x8, zI r2.1] [] r2.2 else zden w (d + 1) 47 54 [zA 5 2 a0, zA 10 8 a1, zI x2, zI x3, zI x4, zI x5, zI x6, zI x7, zI x8, zI (σ (zR w a0 0) (zar 0 x3 x8))] [] σ else zden w (d + 1) 47 54 [zA 5 2 a0, zA 10 8 a1, zI x2, zI x3, zI x4, zI x5, zI x6, zI x7, zI x8, zI (σ (zR w a0 0) (zar 0 x3 x8))] [] σ else zden w (d + 1) 47 54 [zA 5 2 a0, zA 10 8 a1, zI x2, zI x3, zI x4, zI x5, zI x6, zI x7, zI x8, zI (σ (zR w a0 0) (zar 0 x3 x8))] [] σ else none else some (0, σ) :=
  (zunr_eq w zc_X4_move [20, 54, 70, 93, 96] (d + 1) 47 rfl 156 _ _ _ _).symm
set_option maxRecDepth 100000 in
theorem hX4_move_54 (w : zW) (d : Nat) (a0 a1 x2 x3 x4 x5 x6 x7 x8 x9 : Int) (σ : zMem) : zden w (d + 1) 47 54 [zA 5 2 a0, zA 10 8 a1, zI x2, zI x3, zI x4, zI x5, zI x6, zI x7, zI x8, zI x9] [] σ =
  if x5 = 14 then if x8 = x6 then if x7 < x9 then zden w (d + 1) 47 96 [zA 5 2 a0, zA 10 8 a1, zI x2, zI x3, zI x4, zI x5, zI x6, zI x7, zI x8, zI (zar 1 (zar 2 2 x7) x9)] [] σ else zden w (d + 1) 47 70 [zA 5 2 a0, zA 10 8 a1, zI x2, zI x3, zI x4, zI x5, zI x6, zI x7, zI x8, zI x9] [] σ else zden w (d + 1) 47 70 [zA 5 2 a0, zA 10 8 a1, zI x2, zI x3, zI x4, zI x5, zI x6, zI x7, zI x8, zI x9] [] σ else zden w (d + 1) 47 70 [zA 5 2 a0, zA 10 8 a1, zI x2, zI x3, zI x4, zI x5, zI x6, zI x7, zI x8, zI x9] [] σ :=
  (zunr_eq w zc_X4_move [20, 54, 70, 93, 96] (d + 1) 47 rfl 156 _ _ _ _).symm
set_option maxRecDepth 100000 in
theorem hX4_move_70 (w : zW) (d : Nat) (a0 a1 x2 x3 x4 x5 x6 x7 x8 x9 : Int) (σ : zMem) : zden w (d + 1) 47 70 [zA 5 2 a0, zA 10 8 a1, zI x2, zI x3, zI x4, zI x5, zI x6, zI x7, zI x8, zI x9] [] σ =
  if x5 = 15 then (zcall w d 203 [zI x6] σ).bind fun r1 => if r1.1 = 0 then zden w (d + 1) 47 96 [zA 5 2 a0, zA 10 8 a1, zI x2, zI x3, zI x4, zI x5, zI x6, zI x7, zI x8, zI x9] [] r1.2 else (zcall w d 203 [zI x7] r1.2).bind fun r2 => if r2.1 = 0 then zden w (d + 1) 47 96 [zA 5 2 a0, zA 10 8 a1, zI x2, zI x3, zI x4, zI x5, zI x6, zI x7, zI x8, zI x9] [] r2.2 else if x8 = x6 then zden w (d + 1) 47 93 [zA 5 2 a0, zA 10 8 a1, zI x2, zI x3, zI x4, zI x5, zI x6, zI x7, zI x8, zI x9] [zI x7, zI x3, zA 20 24 (zR w a0 0)] r2.2 else if x8 = x7 then zden w (d + 1) 47 93 [zA 5 2 a0, zA 10 8 a1, zI x2, zI x3, zI x4, zI x5, zI x6, zI x7, zI x8, zI x9] [zI x6, zI x3, zA 20 24 (zR w a0 0)] r2.2 else zden w (d + 1) 47 93 [zA 5 2 a0, zA 10 8 a1, zI x2, zI x3, zI x4, zI x5, zI x6, zI x7, zI x8, zI x9] [zI x8, zI x3, zA 20 24 (zR w a0 0)] r2.2 else zden w (d + 1) 47 96 [zA 5 2 a0, zA 10 8 a1, zI x2, zI x3, zI x4, zI x5, zI x6, zI x7, zI x8, zI x9] [] σ :=
  (zunr_eq w zc_X4_move [20, 54, 70, 93, 96] (d + 1) 47 rfl 156 _ _ _ _).symm
set_option maxRecDepth 100000 in
theorem hX4_move_93 (w : zW) (d : Nat) (a0 a1 x2 x3 x4 x5 x6 x7 x8 b0 s1 s2 : Int) (v9 : zV) (σ : zMem) : zden w (d + 1) 47 93 [zA 5 2 a0, zA 10 8 a1, zI x2, zI x3, zI x4, zI x5, zI x6, zI x7, zI x8, v9] [zI s2, zI s1, zA 20 24 b0] σ =
  if (0 : Int) ≤ (zar 0 s1 s2) ∧ (zar 0 s1 s2) < 24 then zden w (d + 1) 47 96 [zA 5 2 a0, zA 10 8 a1, zI x2, zI x3, zI x4, zI x5, zI x6, zI x7, zI x8, zI (σ b0 (zar 0 s1 s2))] [] σ else none :=
  (zunr_eq w zc_X4_move [20, 54, 70, 93, 96] (d + 1) 47 rfl 156 _ _ _ _).symm
set_option maxRecDepth 100000 in
theorem hX4_move_96 (w : zW) (d : Nat) (a0 a1 x2 x3 x4 x5 x6 x7 x8 x9 : Int) (σ : zMem) : zden w (d + 1) 47 96 [zA 5 2 a0, zA 10 8 a1, zI x2, zI x3, zI x4, zI x5, zI x6, zI x7, zI x8, zI x9] [] σ =
  if (0 : Int) ≤ (zar 0 x4 x8) ∧ (zar 0 x4 x8) < 24 then zden w (d + 1) 47 20 [zA 5 2 a0, zA 10 8 a1, zI x2, zI x3, zI x4, zI x5, zI x6, zI x7, zI (zar 0 x8 1), zI x9] [] (zup σ (zR w a0 0) (zar 0 x4 x8) x9) else none :=
  (zunr_eq w zc_X4_move [20, 54, 70, 93, 96] (d + 1) 47 rfl 156 _ _ _ _).symm
set_option maxRecDepth 100000 in
theorem eX5_contains (w : zW) (d : Nat) (a0 x1 : Int) (σ : zMem) : zcall w (d + 1) 49 [zA 6 1 a0, zI x1] σ =
  (zcall w d 202 [zI x1] σ).bind fun r1 => if r1.1 = 0 then some (0, r1.2) else if (0 : Int) ≤ (zar 3 x1 64) ∧ (zar 3 x1 64) < 64 then if (zar 22 (zar 17 (zar 21 (r1.2 (zR w a0 0) (zar 3 x1 64)) (zar 4 x1 64)) 1) 0) = 0 then some (0, r1.2) else some (1, r1.2) else none :=
  (zcall_eq rfl).trans (zunr_eq w zc_X5_contains [] (d + 1) 49 rfl 72 _ _ _ _).symm
set_option maxRecDepth 100000 in
theorem eX5_add (w : zW) (d : Nat) (a0 x1 : Int) (σ : zMem) : zcall w (d + 1) 50 [zA 6 1 a0, zI x1] σ =
  (zcall w d 202 [zI x1] σ).bind fun r1 => if r1.1 = 0 then some (0, r1.2) else if (0 : Int) ≤ (zar 3 x1 64) ∧ (zar 3 x1 64) < 64 then if (0 : Int) ≤ (zar 3 x1 64) ∧ (zar 3 x1 64) < 64 then some (0, zup r1.2 (zR w a0 0) (zar 3 x1 64) (zar 18 (r1.2 (zR w a0 0) (zar 3 x1 64)) (zar 20 1 (zar 4 x1 64)))) else none else none :=
  (zcall_eq rfl).trans (zunr_eq w zc_X5_add [] (d + 1) 50 rfl 68 _ _ _ _).symm
set_option maxRecDepth 100000 in
theorem eX5_addCube (w : zW) (d : Nat) (a0 x1 x2 x3 x4 : Int) (σ : zMem) : zcall w (d + 1) 51 [zA 6 1 a0, zI x1, zI x2, zI x3, zI x4] σ =
  zden w (d + 1) 51 2 [zA 6 1 a0, zI x1, zI x2, zI x3, zI x4, zI x1, zU, zU] [] σ :=
  (zcall_eq rfl).trans (zunr_eq w zc_X5_addCube [2, 9, 16] (d + 1) 51 rfl 84 _ _ _ _).symm
set_option maxRecDepth 100000 in
theorem hX5_addCube_2 (w : zW) (d : Nat) (a0 x1 x2 x3 x4 x5 : Int) (v6 v7 : zV) (σ : zMem) : zden w (d + 1) 51 2 [zA 6 1 a0, zI x1, zI x2, zI x3, zI x4, zI x5, v6, v7] [] σ =
  if x5 < (zar 0 x1 x4) then zden w (d + 1) 51 9 [zA 6 1 a0, zI x1, zI x2, zI x3, zI x4, zI x5, zI x2, v7] [] σ else some (0, σ) :=
  (zunr_eq w zc_X5_addCube [2, 9, 16] (d + 1) 51 rfl 84 _ _ _ _).symm
set_option maxRecDepth 100000 in
theorem hX5_addCube_9 (w : zW) (d : Nat) (a0 x1 x2 x3 x4 x5 x6 : Int) (v7 : zV) (σ : zMem) : zden w (d + 1) 51 9 [zA 6 1 a0, zI x1, zI x2, zI x3, zI x4, zI x5, zI x6, v7] [] σ =
  if x6 < (zar 0 x2 x4) then zden w (d + 1) 51 16 [zA 6 1 a0, zI x1, zI x2, zI x3, zI x4, zI x5, zI x6, zI x3] [] σ else zden w (d + 1) 51 2 [zA 6 1 a0, zI x1, zI x2, zI x3, zI x4, zI (zar 0 x5 1), zI x6, v7] [] σ :=
  (zunr_eq w zc_X5_addCube [2, 9, 16] (d + 1) 51 rfl 84 _ _ _ _).symm
set_option maxRecDepth 100000 in
theorem hX5_addCube_16 (w : zW) (d : Nat) (a0 x1 x2 x3 x4 x5 x6 x7 : Int) (σ : zMem) : zden w (d + 1) 51 16 [zA 6 1 a0, zI x1, zI x2, zI x3, zI x4, zI x5, zI x6, zI x7] [] σ =
  if x7 < (zar 0 x3 x4) then (zcall w d 208 [zI x5, zI x6, zI x7] σ).bind fun r1 => (zcall w d 50 [zA 6 1 a0, zI r1.1] r1.2).bind fun r2 => zden w (d + 1) 51 16 [zA 6 1 a0, zI x1, zI x2, zI x3, zI x4, zI x5, zI x6, zI (zar 0 x7 1)] [] r2.2 else zden w (d + 1) 51 9 [zA 6 1 a0, zI x1, zI x2, zI x3, zI x4, zI x5, zI (zar 0 x6 1), zI x7] [] σ :=
  (zunr_eq w zc_X5_addCube [2, 9, 16] (d + 1) 51 rfl 84 _ _ _ _).symm
set_option maxRecDepth 100000 in
theorem eX5_clear (w : zW) (d : Nat) (a0 : Int) (σ : zMem) : zcall w d 52 [zA 6 1 a0] σ =
  zden w d 52 2 [zA 6 1 a0, zI 0] [] σ :=
  (zcall_eq rfl).trans (zunr_eq w zc_X5_clear [2] d 52 rfl 65 _ _ _ _).symm
set_option maxRecDepth 100000 in
theorem hX5_clear_2 (w : zW) (d : Nat) (a0 x1 : Int) (σ : zMem) : zden w d 52 2 [zA 6 1 a0, zI x1] [] σ =
  if x1 < 64 then if (0 : Int) ≤ x1 ∧ x1 < 64 then zden w d 52 2 [zA 6 1 a0, zI (zar 0 x1 1)] [] (zup σ (zR w a0 0) x1 0) else none else some (0, σ) :=
  (zunr_eq w zc_X5_clear [2] d 52 rfl 65 _ _ _ _).symm
set_option maxRecDepth 100000 in
theorem eX5_takeFrom (w : zW) (d : Nat) (a0 a1 : Int) (σ : zMem) : zcall w d 53 [zA 6 1 a0, zA 6 1 a1] σ =
  zden w d 53 2 [zA 6 1 a0, zA 6 1 a1, zI 0] [] σ :=
  (zcall_eq rfl).trans (zunr_eq w zc_X5_takeFrom [2] d 53 rfl 68 _ _ _ _).symm
set_option maxRecDepth 100000 in
theorem hX5_takeFrom_2 (w : zW) (d : Nat) (a0 a1 x2 : Int) (σ : zMem) : zden w d 53 2 [zA 6 1 a0, zA 6 1 a1, zI x2] [] σ =
  if x2 < 64 then if (0 : Int) ≤ x2 ∧ x2 < 64 then if (0 : Int) ≤ x2 ∧ x2 < 64 then zden w d 53 2 [zA 6 1 a0, zA 6 1 a1, zI (zar 0 x2 1)] [] (zup σ (zR w a0 0) x2 (σ (zR w a1 0) x2)) else none else none else some (0, σ) :=
  (zunr_eq w zc_X5_takeFrom [2] d 53 rfl 68 _ _ _ _).symm
set_option maxRecDepth 100000 in
theorem eX5_becomeBall (w : zW) (d : Nat) (a0 x1 x2 x3 x4 : Int) (σ : zMem) : zcall w (d + 1) 54 [zA 6 1 a0, zI x1, zI x2, zI x3, zI x4] σ =
  (zcall w d 52 [zA 6 1 a0] σ).bind fun r1 => (zcall w d 341 [zI 0, zI (zar 1 x1 x4)] r1.2).bind fun r2 => zden w (d + 1) 54 8 [zA 6 1 a0, zI x1, zI x2, zI x3, zI x4, zI r2.1, zU, zU] [] r2.2 :=
  (zcall_eq rfl).trans (zunr_eq w zc_X5_becomeBall [8, 21, 34] (d + 1) 54 rfl 131 _ _ _ _).symm
set_option maxRecDepth 100000 in
theorem hX5_becomeBall_8 (w : zW) (d : Nat) (a0 x1 x2 x3 x4 x5 : Int) (v6 v7 : zV) (σ : zMem) : zden w (d + 1) 54 8 [zA 6 1 a0, zI x1, zI x2, zI x3, zI x4, zI x5, v6, v7] [] σ =
  (zcall w d 343 [zI 15, zI (zar 0 x1 x4)] σ).bind fun r1 => if r1.1 < x5 then some (0, r1.2) else (zcall w d 341 [zI 0, zI (zar 1 x2 x4)] r1.2).bind fun r2 => zden w (d + 1) 54 21 [zA 6 1 a0, zI x1, zI x2, zI x3, zI x4, zI x5, zI r2.1, v7] [] r2.2 :=
  (zunr_eq w zc_X5_becomeBall [8, 21, 34] (d + 1) 54 rfl 131 _ _ _ _).symm
set_option maxRecDepth 100000 in
theorem hX5_becomeBall_21 (w : zW) (d : Nat) (a0 x1 x2 x3 x4 x5 x6 : Int) (v7 : zV) (σ : zMem) : zden w (d + 1) 54 21 [zA 6 1 a0, zI x1, zI x2, zI x3, zI x4, zI x5, zI x6, v7] [] σ =
  (zcall w d 343 [zI 15, zI (zar 0 x2 x4)] σ).bind fun r1 => if r1.1 < x6 then zden w (d + 1) 54 8 [zA 6 1 a0, zI x1, zI x2, zI x3, zI x4, zI (zar 0 x5 1), zI x6, v7] [] r1.2 else (zcall w d 341 [zI 0, zI (zar 1 x3 x4)] r1.2).bind fun r2 => zden w (d + 1) 54 34 [zA 6 1 a0, zI x1, zI x2, zI x3, zI x4, zI x5, zI x6, zI r2.1] [] r2.2 :=
  (zunr_eq w zc_X5_becomeBall [8, 21, 34] (d + 1) 54 rfl 131 _ _ _ _).symm
set_option maxRecDepth 100000 in
theorem hX5_becomeBall_34 (w : zW) (d : Nat) (a0 x1 x2 x3 x4 x5 x6 x7 : Int) (σ : zMem) : zden w (d + 1) 54 34 [zA 6 1 a0, zI x1, zI x2, zI x3, zI x4, zI x5, zI x6, zI x7] [] σ =
  (zcall w d 343 [zI 15, zI (zar 0 x3 x4)] σ).bind fun r1 => if r1.1 < x7 then zden w (d + 1) 54 21 [zA 6 1 a0, zI x1, zI x2, zI x3, zI x4, zI x5, zI (zar 0 x6 1), zI x7] [] r1.2 else if (zar 2 x4 x4) < (zar 0 (zar 0 (zar 2 (zar 1 x5 x1) (zar 1 x5 x1)) (zar 2 (zar 1 x6 x2) (zar 1 x6 x2))) (zar 2 (zar 1 x7 x3) (zar 1 x7 x3))) then zden w (d + 1) 54 34 [zA 6 1 a0, zI x1, zI x2, zI x3, zI x4, zI x5, zI x6, zI (zar 0 x7 1)] [] r1.2 else (zcall w d 208 [zI x5, zI x6, zI x7] r1.2).bind fun r2 => (zcall w d 50 [zA 6 1 a0, zI r2.1] r2.2).bind fun r3 => zden w (d + 1) 54 34 [zA 6 1 a0, zI x1, zI x2, zI x3, zI x4, zI x5, zI x6, zI (zar 0 x7 1)] [] r3.2 :=
  (zunr_eq w zc_X5_becomeBall [8, 21, 34] (d + 1) 54 rfl 131 _ _ _ _).symm
set_option maxRecDepth 100000 in
theorem eX5_becomeCarving (w : zW) (d : Nat) (a0 a1 a2 x3 : Int) (σ : zMem) : zcall w d 55 [zA 6 1 a0, zA 6 1 a1, zA 6 1 a2, zI x3] σ =
  zden w d 55 2 [zA 6 1 a0, zA 6 1 a1, zA 6 1 a2, zI x3, zI 0, zU, zU, zU, zU] [] σ :=
  (zcall_eq rfl).trans (zunr_eq w zc_X5_becomeCarving [2] d 55 rfl 105 _ _ _ _).symm
set_option maxRecDepth 100000 in
theorem hX5_becomeCarving_2 (w : zW) (d : Nat) (a0 a1 a2 x3 x4 : Int) (v5 v7 : zV) (σ : zMem) : zden w d 55 2 [zA 6 1 a0, zA 6 1 a1, zA 6 1 a2, zI x3, zI x4, v5, zU, v7, zU] [] σ =
  if x4 < 64 then if (0 : Int) ≤ x4 ∧ x4 < 64 then if (0 : Int) ≤ x4 ∧ x4 < 64 then if x3 = 0 then if (0 : Int) ≤ x4 ∧ x4 < 64 then zden w d 55 2 [zA 6 1 a0, zA 6 1 a1, zA 6 1 a2, zI x3, zI (zar 0 x4 1), zJ (σ (zR w a1 0) x4), zU, zJ (σ (zR w a2 0) x4), zU] [] (zup σ (zR w a0 0) x4 (zar 17 (σ (zR w a2 0) x4) (zar 19 (σ (zR w a1 0) x4) (-1)))) else none else if x3 = 1 then if (0 : Int) ≤ x4 ∧ x4 < 64 then zden w d 55 2 [zA 6 1 a0, zA 6 1 a1, zA 6 1 a2, zI x3, zI (zar 0 x4 1), zJ (σ (zR w a1 0) x4), zU, zJ (σ (zR w a2 0) x4), zU] [] (zup σ (zR w a0 0) x4 (zar 17 (σ (zR w a2 0) x4) (σ (zR w a1 0) x4))) else none else if x3 = 2 then if (0 : Int) ≤ x4 ∧ x4 < 64 then zden w d 55 2 [zA 6 1 a0, zA 6 1 a1, zA 6 1 a2, zI x3, zI (zar 0 x4 1), zJ (σ (zR w a1 0) x4), zU, zJ (σ (zR w a2 0) x4), zU] [] (zup σ (zR w a0 0) x4 (zar 17 (σ (zR w a1 0) x4) (zar 19 (σ (zR w a2 0) x4) (-1)))) else none else if (0 : Int) ≤ x4 ∧ x4 < 64 then zden w d 55 2 [zA 6 1 a0, zA 6 1 a1, zA 6 1 a2, zI x3, zI (zar 0 x4 1), zJ (σ (zR w a1 0) x4), zU, zJ (σ (zR w a2 0) x4), zU] [] (zup σ (zR w a0 0) x4 (σ (zR w a2 0) x4)) else none else none else none else some (0, σ) :=
  (zunr_eq w zc_X5_becomeCarving [2] d 55 rfl 105 _ _ _ _).symm
set_option maxRecDepth 100000 in
theorem eX5_flip (w : zW) (d : Nat) (a0 a1 : Int) (σ : zMem) : zcall w d 56 [zA 6 1 a0, zA 6 1 a1] σ =
  zden w d 56 2 [zA 6 1 a0, zA 6 1 a1, zI 0] [] σ :=
  (zcall_eq rfl).trans (zunr_eq w zc_X5_flip [2] d 56 rfl 71 _ _ _ _).symm
set_option maxRecDepth 100000 in
theorem hX5_flip_2 (w : zW) (d : Nat) (a0 a1 x2 : Int) (σ : zMem) : zden w d 56 2 [zA 6 1 a0, zA 6 1 a1, zI x2] [] σ =
  if x2 < 64 then if (0 : Int) ≤ x2 ∧ x2 < 64 then if (0 : Int) ≤ x2 ∧ x2 < 64 then if (0 : Int) ≤ x2 ∧ x2 < 64 then zden w d 56 2 [zA 6 1 a0, zA 6 1 a1, zI (zar 0 x2 1)] [] (zup σ (zR w a0 0) x2 (zar 19 (σ (zR w a0 0) x2) (σ (zR w a1 0) x2))) else none else none else none else some (0, σ) :=
  (zunr_eq w zc_X5_flip [2] d 56 rfl 71 _ _ _ _).symm
set_option maxRecDepth 100000 in
theorem eX5_size (w : zW) (d : Nat) (a0 : Int) (σ : zMem) : zcall w (d + 1) 57 [zA 6 1 a0] σ =
  zden w (d + 1) 57 4 [zA 6 1 a0, zI 0, zI 0] [] σ :=
  (zcall_eq rfl).trans (zunr_eq w zc_X5_size [4] (d + 1) 57 rfl 71 _ _ _ _).symm
set_option maxRecDepth 100000 in
theorem hX5_size_4 (w : zW) (d : Nat) (a0 x1 x2 : Int) (σ : zMem) : zden w (d + 1) 57 4 [zA 6 1 a0, zI x1, zI x2] [] σ =
  if x2 < 64 then if (0 : Int) ≤ x2 ∧ x2 < 64 then (zcall w d 338 [zJ (σ (zR w a0 0) x2)] σ).bind fun r1 => zden w (d + 1) 57 4 [zA 6 1 a0, zI (zar 0 x1 r1.1), zI (zar 0 x2 1)] [] r1.2 else none else some (x1, σ) :=
  (zunr_eq w zc_X5_size [4] (d + 1) 57 rfl 71 _ _ _ _).symm
set_option maxRecDepth 100000 in
theorem eX5_sizeOfBoth (w : zW) (d : Nat) (a0 a1 : Int) (σ : zMem) : zcall w (d + 1) 58 [zA 6 1 a0, zA 6 1 a1] σ =
  zden w (d + 1) 58 4 [zA 6 1 a0, zA 6 1 a1, zI 0, zI 0] [] σ :=
  (zcall_eq rfl).trans (zunr_eq w zc_X5_sizeOfBoth [4] (d + 1) 58 rfl 76 _ _ _ _).symm
set_option maxRecDepth 100000 in
theorem hX5_sizeOfBoth_4 (w : zW) (d : Nat) (a0 a1 x2 x3 : Int) (σ : zMem) : zden w (d + 1) 58 4 [zA 6 1 a0, zA 6 1 a1, zI x2, zI x3] [] σ =
  if x3 < 64 then if (0 : Int) ≤ x3 ∧ x3 < 64 then if (0 : Int) ≤ x3 ∧ x3 < 64 then (zcall w d 338 [zJ (zar 17 (σ (zR w a0 0) x3) (σ (zR w a1 0) x3))] σ).bind fun r1 => zden w (d + 1) 58 4 [zA 6 1 a0, zA 6 1 a1, zI (zar 0 x2 r1.1), zI (zar 0 x3 1)] [] r1.2 else none else none else some (x2, σ) :=
  (zunr_eq w zc_X5_sizeOfBoth [4] (d + 1) 58 rfl 76 _ _ _ _).symm
set_option maxRecDepth 100000 in
theorem eX5_sizeOfOne (w : zW) (d : Nat) (a0 a1 : Int) (σ : zMem) : zcall w (d + 1) 59 [zA 6 1 a0, zA 6 1 a1] σ =
  zden w (d + 1) 59 4 [zA 6 1 a0, zA 6 1 a1, zI 0, zI 0] [] σ :=
  (zcall_eq rfl).trans (zunr_eq w zc_X5_sizeOfOne [4] (d + 1) 59 rfl 76 _ _ _ _).symm
set_option maxRecDepth 100000 in
theorem hX5_sizeOfOne_4 (w : zW) (d : Nat) (a0 a1 x2 x3 : Int) (σ : zMem) : zden w (d + 1) 59 4 [zA 6 1 a0, zA 6 1 a1, zI x2, zI x3] [] σ =
  if x3 < 64 then if (0 : Int) ≤ x3 ∧ x3 < 64 then if (0 : Int) ≤ x3 ∧ x3 < 64 then (zcall w d 338 [zJ (zar 19 (σ (zR w a0 0) x3) (σ (zR w a1 0) x3))] σ).bind fun r1 => zden w (d + 1) 59 4 [zA 6 1 a0, zA 6 1 a1, zI (zar 0 x2 r1.1), zI (zar 0 x3 1)] [] r1.2 else none else none else some (x2, σ) :=
  (zunr_eq w zc_X5_sizeOfOne [4] (d + 1) 59 rfl 76 _ _ _ _).symm
set_option maxRecDepth 100000 in
theorem eX5_sizeAt (w : zW) (d : Nat) (a0 x1 x2 : Int) (σ : zMem) : zcall w (d + 1) 60 [zA 6 1 a0, zI x1, zI x2] σ =
  zden w (d + 1) 60 4 [zA 6 1 a0, zI x1, zI x2, zI 0, zI 0, zU, zU] [] σ :=
  (zcall_eq rfl).trans (zunr_eq w zc_X5_sizeAt [4, 9] (d + 1) 60 rfl 98 _ _ _ _).symm
set_option maxRecDepth 100000 in
theorem hX5_sizeAt_4 (w : zW) (d : Nat) (a0 x1 x2 x3 x4 : Int) (v5 v6 : zV) (σ : zMem) : zden w (d + 1) 60 4 [zA 6 1 a0, zI x1, zI x2, zI x3, zI x4, v5, v6] [] σ =
  if x4 < 16 then zden w (d + 1) 60 9 [zA 6 1 a0, zI x1, zI x2, zI x3, zI x4, zI 0, v6] [] σ else some (x3, σ) :=
  (zunr_eq w zc_X5_sizeAt [4, 9] (d + 1) 60 rfl 98 _ _ _ _).symm
set_option maxRecDepth 100000 in
theorem hX5_sizeAt_9 (w : zW) (d : Nat) (a0 x1 x2 x3 x4 x5 : Int) (v6 : zV) (σ : zMem) : zden w (d + 1) 60 9 [zA 6 1 a0, zI x1, zI x2, zI x3, zI x4, zI x5, v6] [] σ =
  if x5 < 16 then if x1 = 0 then (zcall w d 208 [zI x2, zI x4, zI x5] σ).bind fun r1 => (zcall w d 49 [zA 6 1 a0, zI r1.1] r1.2).bind fun r2 => if r2.1 = 0 then zden w (d + 1) 60 9 [zA 6 1 a0, zI x1, zI x2, zI (zar 0 x3 0), zI x4, zI (zar 0 x5 1), zI r1.1] [] r2.2 else zden w (d + 1) 60 9 [zA 6 1 a0, zI x1, zI x2, zI (zar 0 x3 1), zI x4, zI (zar 0 x5 1), zI r1.1] [] r2.2 else if x1 = 1 then (zcall w d 208 [zI x4, zI x2, zI x5] σ).bind fun r3 => (zcall w d 49 [zA 6 1 a0, zI r3.1] r3.2).bind fun r4 => if r4.1 = 0 then zden w (d + 1) 60 9 [zA 6 1 a0, zI x1, zI x2, zI (zar 0 x3 0), zI x4, zI (zar 0 x5 1), zI r3.1] [] r4.2 else zden w (d + 1) 60 9 [zA 6 1 a0, zI x1, zI x2, zI (zar 0 x3 1), zI x4, zI (zar 0 x5 1), zI r3.1] [] r4.2 else (zcall w d 208 [zI x4, zI x5, zI x2] σ).bind fun r5 => (zcall w d 49 [zA 6 1 a0, zI r5.1] r5.2).bind fun r6 => if r6.1 = 0 then zden w (d + 1) 60 9 [zA 6 1 a0, zI x1, zI x2, zI (zar 0 x3 0), zI x4, zI (zar 0 x5 1), zI r5.1] [] r6.2 else zden w (d + 1) 60 9 [zA 6 1 a0, zI x1, zI x2, zI (zar 0 x3 1), zI x4, zI (zar 0 x5 1), zI r5.1] [] r6.2 else zden w (d + 1) 60 4 [zA 6 1 a0, zI x1, zI x2, zI x3, zI (zar 0 x4 1), zI x5, v6] [] σ :=
  (zunr_eq w zc_X5_sizeAt [4, 9] (d + 1) 60 rfl 98 _ _ _ _).symm
set_option maxRecDepth 100000 in
theorem eX5_ofThem (w : zW) (d : Nat) (a0 x1 : Int) (σ : zMem) : zcall w (d + 1) 61 [zA 6 1 a0, zI x1] σ =
  zden w (d + 1) 61 4 [zA 6 1 a0, zI x1, zI x1, zI 0] [] σ :=
  (zcall_eq rfl).trans (zunr_eq w zc_X5_ofThem [4] (d + 1) 61 rfl 70 _ _ _ _).symm
set_option maxRecDepth 100000 in
theorem hX5_ofThem_4 (w : zW) (d : Nat) (a0 x2 x3 : Int) (v1 : zV) (σ : zMem) : zden w (d + 1) 61 4 [zA 6 1 a0, v1, zI x2, zI x3] [] σ =
  if x3 < 4096 then (zcall w d 49 [zA 6 1 a0, zI x3] σ).bind fun r1 => if r1.1 = 0 then zden w (d + 1) 61 4 [zA 6 1 a0, v1, zI x2, zI (zar 0 x3 1)] [] r1.2 else if x2 = 0 then some (x3, r1.2) else zden w (d + 1) 61 4 [zA 6 1 a0, (zlng 0 v1), zI (zar 0 x2 (-1)), zI (zar 0 x3 1)] [] r1.2 else some (-1, σ) :=
  (zunr_eq w zc_X5_ofThem [4] (d + 1) 61 rfl 70 _ _ _ _).symm
set_option maxRecDepth 100000 in
theorem eX6_size (w : zW) (d : Nat) (σ : zMem) : zcall w d 63 [zA 7 11 78] σ =
  some (σ 78 1, σ) :=
  (zcall_eq rfl).trans (zunr_eq w zc_X6_size [] d 63 rfl 53 _ _ _ _).symm
set_option maxRecDepth 100000 in
theorem eX6_made (w : zW) (d : Nat) (σ : zMem) : zcall w d 64 [zA 7 11 78] σ =
  some (σ 78 4, σ) :=
  (zcall_eq rfl).trans (zunr_eq w zc_X6_made [] d 64 rfl 53 _ _ _ _).symm
set_option maxRecDepth 100000 in
theorem eX6_isFull (w : zW) (d : Nat) (σ : zMem) : zcall w d 65 [zA 7 11 78] σ =
  if (σ 78 1) < 250 then some (0, σ) else some (1, σ) :=
  (zcall_eq rfl).trans (zunr_eq w zc_X6_isFull [] d 65 rfl 58 _ _ _ _).symm
set_option maxRecDepth 100000 in
theorem eX6_put (w : zW) (d : Nat) (x1 : Int) (σ : zMem) : zcall w d 66 [zA 7 11 78, zI x1] σ =
  if (σ 78 1) < 0 then some (0, σ) else if (σ 78 1) < 250 then if (0 : Int) ≤ (σ 78 1) ∧ (σ 78 1) < 250 then some (0, zup (zup σ 79 (σ 78 1) x1) 78 1 (zar 0 ((zup σ 79 (σ 78 1) x1) 78 1) 1)) else none else some (0, σ) :=
  (zcall_eq rfl).trans (zunr_eq w zc_X6_put [] d 66 rfl 70 _ _ _ _).symm
set_option maxRecDepth 100000 in
theorem eX6_empty (w : zW) (d : Nat) (σ : zMem) : zcall w d 67 [zA 7 11 78] σ =
  some (0, zup σ 78 1 0) :=
  (zcall_eq rfl).trans (zunr_eq w zc_X6_empty [] d 67 rfl 54 _ _ _ _).symm
set_option maxRecDepth 100000 in
theorem eX6_read (w : zW) (d : Nat) (a1 : Int) (σ : zMem) : zcall w (d + 1) 68 [zA 7 11 78, zA 10 8 a1] σ =
  zden w (d + 1) 68 16 [zA 7 11 78, zA 10 8 a1, zI 1, zI 0] [] (zup (zup (zup (zup σ 78 2 0) 78 4 0) 78 5 0) 78 3 (-1)) :=
  (zcall_eq rfl).trans (zunr_eq w zc_X6_read [16] (d + 1) 68 rfl 80 _ _ _ _).symm
set_option maxRecDepth 100000 in
theorem hX6_read_16 (w : zW) (d : Nat) (a1 x2 x3 : Int) (σ : zMem) : zden w (d + 1) 68 16 [zA 7 11 78, zA 10 8 a1, zI x2, zI x3] [] σ =
  if 250 < x3 then some (σ 78 3, σ) else if x2 = 0 then some (σ 78 3, σ) else (zcall w d 69 [zA 7 11 78, zA 10 8 a1] σ).bind fun r1 => zden w (d + 1) 68 16 [zA 7 11 78, zA 10 8 a1, zI r1.1, zI (zar 0 x3 1)] [] r1.2 :=
  (zunr_eq w zc_X6_read [16] (d + 1) 68 rfl 80 _ _ _ _).symm
set_option maxRecDepth 100000 in
theorem eX6_begin (w : zW) (d : Nat) (a1 : Int) (σ : zMem) : zcall w (d + 1) 69 [zA 7 11 78, zA 10 8 a1] σ =
  (zcall w d 75 [zA 7 11 78] σ).bind fun r1 => (zcall w d 77 [zA 7 11 78] r1.2).bind fun r2 => if r2.1 = (-1) then (zcall w d 73 [zA 7 11 78, zI (r1.2 78 2)] r2.2).bind fun r3 => if 0 ≤ r3.1 ∧ r3.1 ≤ 1 then some (r3.1, r3.2) else none else zden w (d + 1) 69 17 [zA 7 11 78, zA 10 8 a1, zI (r1.2 78 2), zI r2.1, zI 0] [] r2.2 :=
  (zcall_eq rfl).trans (zunr_eq w zc_X6_begin [17] (d + 1) 69 rfl 106 _ _ _ _).symm
set_option maxRecDepth 100000 in
theorem hX6_begin_17 (w : zW) (d : Nat) (a1 x2 x3 x4 : Int) (σ : zMem) : zden w (d + 1) 69 17 [zA 7 11 78, zA 10 8 a1, zI x2, zI x3, zI x4] [] σ =
  (zcall w d 29 [zI x3] σ).bind fun r1 => if x4 < r1.1 then (zcall w d 79 [zA 7 11 78, zI x3, zI x4] r1.2).bind fun r2 => if r2.1 = 0 then some (0, r2.2) else zden w (d + 1) 69 17 [zA 7 11 78, zA 10 8 a1, zI x2, zI x3, zI (zar 0 x4 1)] [] r2.2 else (zcall w d 27 [zI x3] r1.2).bind fun r3 => if r3.1 = 0 then (zcall w d 76 [zA 7 11 78, zI 40] r3.2).bind fun r4 => if r4.1 = 0 then some (0, r4.2) else (zcall w d 70 [zA 7 11 78, zI x3, zI x2] r4.2).bind fun r5 => if r5.1 = 0 then some (0, r5.2) else some (1, r5.2) else (zcall w d 72 [zA 7 11 78, zA 10 8 a1, zI x3, zI (-1), zI (-1)] r3.2).bind fun r6 => (zcall w d 71 [zA 7 11 78, zA 10 8 a1, zI r6.1] r6.2).bind fun r7 => if 0 ≤ r7.1 ∧ r7.1 ≤ 1 then some (r7.1, r7.2) else none :=
  (zunr_eq w zc_X6_begin [17] (d + 1) 69 rfl 106 _ _ _ _).symm
set_option maxRecDepth 100000 in
theorem eX6_begun (w : zW) (d : Nat) (x1 x2 : Int) (σ : zMem) : zcall w (d + 1) 70 [zA 7 11 78, zI x1, zI x2] σ =
  if (σ 78 5) < 0 then (zcall w d 73 [zA 7 11 78, zI x2] σ).bind fun r1 => if 0 ≤ r1.1 ∧ r1.1 ≤ 1 then some (r1.1, r1.2) else none else if (σ 78 5) < 64 then if (0 : Int) ≤ (σ 78 5) ∧ (σ 78 5) < 64 then if (0 : Int) ≤ ((zup σ 80 (σ 78 5) x1) 78 5) ∧ ((zup σ 80 (σ 78 5) x1) 78 5) < 64 then if (0 : Int) ≤ ((zup (zup σ 80 (σ 78 5) x1) 81 ((zup σ 80 (σ 78 5) x1) 78 5) x2) 78 5) ∧ ((zup (zup σ 80 (σ 78 5) x1) 81 ((zup σ 80 (σ 78 5) x1) 78 5) x2) 78 5) < 64 then if (20 : Int) = 20 ∧ ((20 : Int) = 20 ∨ (20 : Int) = 21) ∧ (0 : Int) ≤ 6 ∧ (0 : Int) ≤ 0 ∧ (0 : Int) ≤ (zar 2 ((zup (zup (zup σ 80 (σ 78 5) x1) 81 ((zup σ 80 (σ 78 5) x1) 78 5) x2) 82 ((zup (zup σ 80 (σ 78 5) x1) 81 ((zup σ 80 (σ 78 5) x1) 78 5) x2) 78 5) (-1)) 78 5) 6) ∧ (0 : Int) + 6 ≤ 6 ∧ ((zar 2 ((zup (zup (zup σ 80 (σ 78 5) x1) 81 ((zup σ 80 (σ 78 5) x1) 78 5) x2) 82 ((zup (zup σ 80 (σ 78 5) x1) 81 ((zup σ 80 (σ 78 5) x1) 78 5) x2) 78 5) (-1)) 78 5) 6) : Int) + 6 ≤ 384 ∧ 0 ≤ 8 then some (1, zup (zfc (zup (zup (zup σ 80 (σ 78 5) x1) 81 ((zup σ 80 (σ 78 5) x1) 78 5) x2) 82 ((zup (zup σ 80 (σ 78 5) x1) 81 ((zup σ 80 (σ 78 5) x1) 78 5) x2) 78 5) (-1)) 84 0 83 (zar 2 ((zup (zup (zup σ 80 (σ 78 5) x1) 81 ((zup σ 80 (σ 78 5) x1) 78 5) x2) 82 ((zup (zup σ 80 (σ 78 5) x1) 81 ((zup σ 80 (σ 78 5) x1) 78 5) x2) 78 5) (-1)) 78 5) 6) 6) 78 5 (zar 0 ((zfc (zup (zup (zup σ 80 (σ 78 5) x1) 81 ((zup σ 80 (σ 78 5) x1) 78 5) x2) 82 ((zup (zup σ 80 (σ 78 5) x1) 81 ((zup σ 80 (σ 78 5) x1) 78 5) x2) 78 5) (-1)) 84 0 83 (zar 2 ((zup (zup (zup σ 80 (σ 78 5) x1) 81 ((zup σ 80 (σ 78 5) x1) 78 5) x2) 82 ((zup (zup σ 80 (σ 78 5) x1) 81 ((zup σ 80 (σ 78 5) x1) 78 5) x2) 78 5) (-1)) 78 5) 6) 6) 78 5) 1)) else none else none else none else none else (zcall w d 73 [zA 7 11 78, zI x2] σ).bind fun r2 => if 0 ≤ r2.1 ∧ r2.1 ≤ 1 then some (r2.1, r2.2) else none :=
  (zcall_eq rfl).trans (zunr_eq w zc_X6_begun [] (d + 1) 70 rfl 98 _ _ _ _).symm
set_option maxRecDepth 100000 in
theorem eX6_end (w : zW) (d : Nat) (a1 x2 : Int) (σ : zMem) : zcall w (d + 1) 71 [zA 7 11 78, zA 10 8 a1, zI x2] σ =
  (zcall w d 343 [zI (σ 78 5), zI 64] σ).bind fun r1 => zden w (d + 1) 71 9 [zA 7 11 78, zA 10 8 a1, zI x2, zI x2, zI (zar 1 r1.1 1), zU, zU, zU] [] r1.2 :=
  (zcall_eq rfl).trans (zunr_eq w zc_X6_end [9] (d + 1) 71 rfl 157 _ _ _ _).symm
set_option maxRecDepth 100000 in
theorem hX6_end_9 (w : zW) (d : Nat) (a1 x3 x4 : Int) (v2 v5 v6 v7 : zV) (σ : zMem) : zden w (d + 1) 71 9 [zA 7 11 78, zA 10 8 a1, v2, zI x3, zI x4, v5, v6, v7] [] σ =
  if x4 < 0 then (zcall w d 75 [zA 7 11 78] σ).bind fun r1 => if (r1.2 78 2) < (r1.2 78 1) then (zcall w d 73 [zA 7 11 78, zI (r1.2 78 2)] r1.2).bind fun r2 => if r2.1 = 0 then some (0, r2.2) else some (1, r2.2) else some (0, r1.2) else if (0 : Int) ≤ x4 ∧ x4 < 64 then (zcall w d 28 [zI (σ 80 x4)] σ).bind fun r3 => if r3.1 = 0 then if x3 = (-1) then if (0 : Int) ≤ x4 ∧ x4 < 64 then (zcall w d 76 [zA 7 11 78, zI 44] (zup r3.2 82 x4 x3)).bind fun r4 => if 0 ≤ r4.1 ∧ r4.1 ≤ 1 then some (r4.1, r4.2) else none else none else (zcall w d 76 [zA 7 11 78, zI 41] r3.2).bind fun r5 => if r5.1 = 0 then some (0, r5.2) else if r3.1 = 0 then if (0 : Int) ≤ x4 ∧ x4 < 64 then (zcall w d 119 [zA 10 8 a1, zI (r5.2 80 x4), zI x3, zI (-1)] r5.2).bind fun r6 => if r6.1 = 0 then if (20 : Int) = 20 ∧ ((20 : Int) = 20 ∨ (20 : Int) = 21) ∧ (0 : Int) ≤ 6 ∧ (0 : Int) ≤ (zar 2 x4 6) ∧ (0 : Int) ≤ 0 ∧ ((zar 2 x4 6) : Int) + 6 ≤ 384 ∧ (0 : Int) + 6 ≤ 6 ∧ 0 ≤ 8 then if (0 : Int) ≤ x4 ∧ x4 < 64 then (zcall w d 72 [zA 7 11 78, zA 10 8 a1, zI ((zfc r6.2 83 (zar 2 x4 6) 84 0 6) 80 x4), zI x3, zI (-1)] (zfc r6.2 83 (zar 2 x4 6) 84 0 6)).bind fun r7 => zden w (d + 1) 71 9 [zA 7 11 78, zA 10 8 a1, (zlng 0 v2), zI r7.1, zI (zar 0 x4 (-1)), zI r3.1, zI x3, zI (-1)] [] (zup r7.2 78 5 x4) else none else none else if (0 : Int) ≤ x4 ∧ x4 < 64 then (zcall w d 73 [zA 7 11 78, zI (r6.2 81 x4)] r6.2).bind fun r8 => if 0 ≤ r8.1 ∧ r8.1 ≤ 1 then some (r8.1, r8.2) else none else none else none else if (0 : Int) ≤ x4 ∧ x4 < 64 then (zcall w d 119 [zA 10 8 a1, zI (r5.2 80 x4), zI x3, zI x3] r5.2).bind fun r9 => if r9.1 = 0 then if (20 : Int) = 20 ∧ ((20 : Int) = 20 ∨ (20 : Int) = 21) ∧ (0 : Int) ≤ 6 ∧ (0 : Int) ≤ (zar 2 x4 6) ∧ (0 : Int) ≤ 0 ∧ ((zar 2 x4 6) : Int) + 6 ≤ 384 ∧ (0 : Int) + 6 ≤ 6 ∧ 0 ≤ 8 then if (0 : Int) ≤ x4 ∧ x4 < 64 then (zcall w d 72 [zA 7 11 78, zA 10 8 a1, zI ((zfc r9.2 83 (zar 2 x4 6) 84 0 6) 80 x4), zI x3, zI x3] (zfc r9.2 83 (zar 2 x4 6) 84 0 6)).bind fun r10 => zden w (d + 1) 71 9 [zA 7 11 78, zA 10 8 a1, (zlng 0 v2), zI r10.1, zI (zar 0 x4 (-1)), zI r3.1, zI x3, zI x3] [] (zup r10.2 78 5 x4) else none else none else if (0 : Int) ≤ x4 ∧ x4 < 64 then (zcall w d 73 [zA 7 11 78, zI (r9.2 81 x4)] r9.2).bind fun r11 => if 0 ≤ r11.1 ∧ r11.1 ≤ 1 then some (r11.1, r11.2) else none else none else none else if (0 : Int) ≤ x4 ∧ x4 < 64 then if (r3.2 82 x4) = (-1) then if (0 : Int) ≤ x4 ∧ x4 < 64 then (zcall w d 76 [zA 7 11 78, zI 44] (zup r3.2 82 x4 x3)).bind fun r12 => if 0 ≤ r12.1 ∧ r12.1 ≤ 1 then some (r12.1, r12.2) else none else none else (zcall w d 76 [zA 7 11 78, zI 41] r3.2).bind fun r13 => if r13.1 = 0 then some (0, r13.2) else if r3.1 = 0 then if (0 : Int) ≤ x4 ∧ x4 < 64 then (zcall w d 119 [zA 10 8 a1, zI (r13.2 80 x4), zI (r3.2 82 x4), zI (-1)] r13.2).bind fun r14 => if r14.1 = 0 then if (20 : Int) = 20 ∧ ((20 : Int) = 20 ∨ (20 : Int) = 21) ∧ (0 : Int) ≤ 6 ∧ (0 : Int) ≤ (zar 2 x4 6) ∧ (0 : Int) ≤ 0 ∧ ((zar 2 x4 6) : Int) + 6 ≤ 384 ∧ (0 : Int) + 6 ≤ 6 ∧ 0 ≤ 8 then if (0 : Int) ≤ x4 ∧ x4 < 64 then (zcall w d 72 [zA 7 11 78, zA 10 8 a1, zI ((zfc r14.2 83 (zar 2 x4 6) 84 0 6) 80 x4), zI (r3.2 82 x4), zI (-1)] (zfc r14.2 83 (zar 2 x4 6) 84 0 6)).bind fun r15 => zden w (d + 1) 71 9 [zA 7 11 78, zA 10 8 a1, (zlng 0 v2), zI r15.1, zI (zar 0 x4 (-1)), zI r3.1, zI (r3.2 82 x4), zI (-1)] [] (zup r15.2 78 5 x4) else none else none else if (0 : Int) ≤ x4 ∧ x4 < 64 then (zcall w d 73 [zA 7 11 78, zI (r14.2 81 x4)] r14.2).bind fun r16 => if 0 ≤ r16.1 ∧ r16.1 ≤ 1 then some (r16.1, r16.2) else none else none else none else if (0 : Int) ≤ x4 ∧ x4 < 64 then (zcall w d 119 [zA 10 8 a1, zI (r13.2 80 x4), zI (r3.2 82 x4), zI x3] r13.2).bind fun r17 => if r17.1 = 0 then if (20 : Int) = 20 ∧ ((20 : Int) = 20 ∨ (20 : Int) = 21) ∧ (0 : Int) ≤ 6 ∧ (0 : Int) ≤ (zar 2 x4 6) ∧ (0 : Int) ≤ 0 ∧ ((zar 2 x4 6) : Int) + 6 ≤ 384 ∧ (0 : Int) + 6 ≤ 6 ∧ 0 ≤ 8 then if (0 : Int) ≤ x4 ∧ x4 < 64 then (zcall w d 72 [zA 7 11 78, zA 10 8 a1, zI ((zfc r17.2 83 (zar 2 x4 6) 84 0 6) 80 x4), zI (r3.2 82 x4), zI x3] (zfc r17.2 83 (zar 2 x4 6) 84 0 6)).bind fun r18 => zden w (d + 1) 71 9 [zA 7 11 78, zA 10 8 a1, (zlng 0 v2), zI r18.1, zI (zar 0 x4 (-1)), zI r3.1, zI (r3.2 82 x4), zI x3] [] (zup r18.2 78 5 x4) else none else none else if (0 : Int) ≤ x4 ∧ x4 < 64 then (zcall w d 73 [zA 7 11 78, zI (r17.2 81 x4)] r17.2).bind fun r19 => if 0 ≤ r19.1 ∧ r19.1 ≤ 1 then some (r19.1, r19.2) else none else none else none else none else none :=
  (zunr_eq w zc_X6_end [9] (d + 1) 71 rfl 157 _ _ _ _).symm
set_option maxRecDepth 100000 in
theorem eX6_write (w : zW) (d : Nat) (a1 x2 x3 x4 : Int) (σ : zMem) : zcall w (d + 1) 72 [zA 7 11 78, zA 10 8 a1, zI x2, zI x3, zI x4] σ =
  (zcall w d 110 [zA 10 8 a1] σ).bind fun r1 => (zcall w d 122 [zA 10 8 a1, zI (zar 0 r1.1 (r1.2 78 4)), zI x2, zI x3, zI x4, zA 20 6 84] r1.2).bind fun r2 => some (zar 0 r1.1 (r1.2 78 4), zup r2.2 78 4 (zar 0 (r2.2 78 4) 1)) :=
  (zcall_eq rfl).trans (zunr_eq w zc_X6_write [] (d + 1) 72 rfl 72 _ _ _ _).symm
set_option maxRecDepth 100000 in
theorem eX6_isFault (w : zW) (d : Nat) (x1 : Int) (σ : zMem) : zcall w d 73 [zA 7 11 78, zI x1] σ =
  some (0, zup σ 78 3 x1) :=
  (zcall_eq rfl).trans (zunr_eq w zc_X6_isFault [] d 73 rfl 55 _ _ _ _).symm
set_option maxRecDepth 100000 in
theorem eX6_byteAt (w : zW) (d : Nat) (x1 : Int) (σ : zMem) : zcall w d 74 [zA 7 11 78, zI x1] σ =
  if x1 < 0 then some (-1, σ) else if x1 < (σ 78 1) then if x1 < 250 then if (0 : Int) ≤ x1 ∧ x1 < 250 then some (σ 79 x1, σ) else none else some (-1, σ) else some (-1, σ) :=
  (zcall_eq rfl).trans (zunr_eq w zc_X6_byteAt [] d 74 rfl 66 _ _ _ _).symm
set_option maxRecDepth 100000 in
theorem eX6_skipBlanks (w : zW) (d : Nat) (σ : zMem) : zcall w (d + 1) 75 [zA 7 11 78] σ =
  zden w (d + 1) 75 3 [zA 7 11 78, zI (σ 78 2)] [] σ :=
  (zcall_eq rfl).trans (zunr_eq w zc_X6_skipBlanks [3] (d + 1) 75 rfl 70 _ _ _ _).symm
set_option maxRecDepth 100000 in
theorem hX6_skipBlanks_3 (w : zW) (d : Nat) (x1 : Int) (σ : zMem) : zden w (d + 1) 75 3 [zA 7 11 78, zI x1] [] σ =
  if x1 < (σ 78 1) then (zcall w d 74 [zA 7 11 78, zI x1] σ).bind fun r1 => if r1.1 = 32 then zden w (d + 1) 75 3 [zA 7 11 78, zI (zar 0 x1 1)] [] (zup r1.2 78 2 (zar 0 x1 1)) else some (0, r1.2) else some (0, σ) :=
  (zunr_eq w zc_X6_skipBlanks [3] (d + 1) 75 rfl 70 _ _ _ _).symm
set_option maxRecDepth 100000 in
theorem eX6_readSign (w : zW) (d : Nat) (x1 : Int) (σ : zMem) : zcall w (d + 1) 76 [zA 7 11 78, zI x1] σ =
  (zcall w d 75 [zA 7 11 78] σ).bind fun r1 => (zcall w d 74 [zA 7 11 78, zI (r1.2 78 2)] r1.2).bind fun r2 => if r2.1 = x1 then some (1, zup r2.2 78 2 (zar 0 (r2.2 78 2) 1)) else (zcall w d 73 [zA 7 11 78, zI (r2.2 78 2)] r2.2).bind fun r3 => if 0 ≤ r3.1 ∧ r3.1 ≤ 1 then some (r3.1, r3.2) else none :=
  (zcall_eq rfl).trans (zunr_eq w zc_X6_readSign [] (d + 1) 76 rfl 71 _ _ _ _).symm
set_option maxRecDepth 100000 in
theorem eX6_readWord (w : zW) (d : Nat) (σ : zMem) : zcall w (d + 1) 77 [zA 7 11 78] σ =
  zden w (d + 1) 77 5 [zA 7 11 78, zI (σ 78 2), zI (σ 78 2)] [] σ :=
  (zcall_eq rfl).trans (zunr_eq w zc_X6_readWord [5, 25] (d + 1) 77 rfl 94 _ _ _ _).symm
set_option maxRecDepth 100000 in
theorem hX6_readWord_5 (w : zW) (d : Nat) (x1 x2 : Int) (σ : zMem) : zden w (d + 1) 77 5 [zA 7 11 78, zI x1, zI x2] [] σ =
  if x2 < (σ 78 1) then (zcall w d 74 [zA 7 11 78, zI x2] σ).bind fun r1 => (zcall w d 200 [zI r1.1, zI 97, zI 122] r1.2).bind fun r2 => if r2.1 = 0 then zden w (d + 1) 77 25 [zA 7 11 78, zI x1, zI 3] [] r2.2 else zden w (d + 1) 77 5 [zA 7 11 78, zI x1, zI (zar 0 x2 1)] [] (zup r2.2 78 2 (zar 0 x2 1)) else zden w (d + 1) 77 25 [zA 7 11 78, zI x1, zI 3] [] σ :=
  (zunr_eq w zc_X6_readWord [5, 25] (d + 1) 77 rfl 94 _ _ _ _).symm
set_option maxRecDepth 100000 in
theorem hX6_readWord_25 (w : zW) (d : Nat) (x1 x2 : Int) (σ : zMem) : zden w (d + 1) 77 25 [zA 7 11 78, zI x1, zI x2] [] σ =
  if 17 < x2 then some (-1, σ) else if x1 < (σ 78 2) then (zcall w d 34 [zI x2] σ).bind fun r1 => (zcall w d 78 [zA 7 11 78, zI x1, zA 40 0 r1.1] r1.2).bind fun r2 => if r2.1 = 0 then zden w (d + 1) 77 25 [zA 7 11 78, zI x1, zI (zar 0 x2 1)] [] r2.2 else some (x2, r2.2) else some (-1, σ) :=
  (zunr_eq w zc_X6_readWord [5, 25] (d + 1) 77 rfl 94 _ _ _ _).symm
set_option maxRecDepth 100000 in
theorem eX6_isWord (w : zW) (d : Nat) (x1 a2 : Int) (σ : zMem) : zcall w (d + 1) 78 [zA 7 11 78, zI x1, zA 40 0 a2] σ =
  (zcall w d 345 [zA 40 0 a2] σ).bind fun r1 => if r1.1 = (zar 1 (r1.2 78 2) x1) then zden w (d + 1) 78 11 [zA 7 11 78, zI x1, zA 40 0 a2, zI 0] [] r1.2 else some (0, r1.2) :=
  (zcall_eq rfl).trans (zunr_eq w zc_X6_isWord [11] (d + 1) 78 rfl 80 _ _ _ _).symm
set_option maxRecDepth 100000 in
theorem hX6_isWord_11 (w : zW) (d : Nat) (x1 a2 x3 : Int) (σ : zMem) : zden w (d + 1) 78 11 [zA 7 11 78, zI x1, zA 40 0 a2, zI x3] [] σ =
  (zcall w d 345 [zA 40 0 a2] σ).bind fun r1 => if x3 < r1.1 then (zcall w d 74 [zA 7 11 78, zI (zar 0 x1 x3)] r1.2).bind fun r2 => (zcall w d 346 [zA 40 0 a2, zI x3] r2.2).bind fun r3 => if r2.1 = r3.1 then zden w (d + 1) 78 11 [zA 7 11 78, zI x1, zA 40 0 a2, zI (zar 0 x3 1)] [] r3.2 else some (0, r3.2) else some (1, r1.2) :=
  (zunr_eq w zc_X6_isWord [11] (d + 1) 78 rfl 80 _ _ _ _).symm
set_option maxRecDepth 100000 in
theorem eX6_readNumber (w : zW) (d : Nat) (x1 x2 : Int) (σ : zMem) : zcall w (d + 1) 79 [zA 7 11 78, zI x1, zI x2] σ =
  (zcall w d 75 [zA 7 11 78] σ).bind fun r1 => (zcall w d 74 [zA 7 11 78, zI (r1.2 78 2)] r1.2).bind fun r2 => if r2.1 = 45 then (zcall w d 33 [zI x1, zI x2] r2.2).bind fun r3 => if r3.1 = 0 then zden w (d + 1) 79 33 [zA 7 11 78, zI x1, zI x2, zI 0, zI (r3.2 78 2), zI 0, zI (r3.2 78 2)] [] r3.2 else (zcall w d 75 [zA 7 11 78] (zup r3.2 78 2 (zar 0 (r3.2 78 2) 1))).bind fun r4 => zden w (d + 1) 79 33 [zA 7 11 78, zI x1, zI x2, zI 1, zI (r4.2 78 2), zI 0, zI (r4.2 78 2)] [] r4.2 else zden w (d + 1) 79 33 [zA 7 11 78, zI x1, zI x2, zI 0, zI (r2.2 78 2), zI 0, zI (r2.2 78 2)] [] r2.2 :=
  (zcall_eq rfl).trans (zunr_eq w zc_X6_readNumber [33] (d + 1) 79 rfl 154 _ _ _ _).symm
set_option maxRecDepth 100000 in
theorem hX6_readNumber_33 (w : zW) (d : Nat) (x1 x2 x3 x4 x5 x6 : Int) (σ : zMem) : zden w (d + 1) 79 33 [zA 7 11 78, zI x1, zI x2, zI x3, zI x4, zI x5, zI x6] [] σ =
  if x6 < (σ 78 1) then (zcall w d 74 [zA 7 11 78, zI x6] σ).bind fun r1 => (zcall w d 200 [zI r1.1, zI 48, zI 57] r1.2).bind fun r2 => if r2.1 = 0 then if (r2.2 78 2) = x4 then (zcall w d 73 [zA 7 11 78, zI x4] r2.2).bind fun r3 => if 0 ≤ r3.1 ∧ r3.1 ≤ 1 then some (r3.1, r3.2) else none else if 3 < (zar 1 (r2.2 78 2) x4) then (zcall w d 73 [zA 7 11 78, zI x4] r2.2).bind fun r4 => if 0 ≤ r4.1 ∧ r4.1 ≤ 1 then some (r4.1, r4.2) else none else if x2 < 0 then (zcall w d 73 [zA 7 11 78, zI x4] r2.2).bind fun r5 => if 0 ≤ r5.1 ∧ r5.1 ≤ 1 then some (r5.1, r5.2) else none else if x2 < 6 then if x3 = 0 then if (0 : Int) ≤ x2 ∧ x2 < 6 then (zcall w d 31 [zI x1, zI x2, zA 20 6 84] (zup r2.2 84 x2 x5)).bind fun r6 => if r6.1 = 0 then (zcall w d 73 [zA 7 11 78, zI x4] r6.2).bind fun r7 => if r7.1 = 0 then some (0, r7.2) else some (1, r7.2) else some (1, r6.2) else none else if (0 : Int) ≤ x2 ∧ x2 < 6 then (zcall w d 31 [zI x1, zI x2, zA 20 6 84] (zup r2.2 84 x2 (zar 5 x5 0))).bind fun r8 => if r8.1 = 0 then (zcall w d 73 [zA 7 11 78, zI x4] r8.2).bind fun r9 => if r9.1 = 0 then some (0, r9.2) else some (1, r9.2) else some (1, r8.2) else none else (zcall w d 73 [zA 7 11 78, zI x4] r2.2).bind fun r10 => if 0 ≤ r10.1 ∧ r10.1 ≤ 1 then some (r10.1, r10.2) else none else (zcall w d 74 [zA 7 11 78, zI x6] r2.2).bind fun r11 => zden w (d + 1) 79 33 [zA 7 11 78, zI x1, zI x2, zI x3, zI x4, zI (zar 1 (zar 0 (zar 2 x5 10) r11.1) 48), zI (zar 0 x6 1)] [] (zup r11.2 78 2 (zar 0 x6 1)) else if (σ 78 2) = x4 then (zcall w d 73 [zA 7 11 78, zI x4] σ).bind fun r12 => if 0 ≤ r12.1 ∧ r12.1 ≤ 1 then some (r12.1, r12.2) else none else if 3 < (zar 1 (σ 78 2) x4) then (zcall w d 73 [zA 7 11 78, zI x4] σ).bind fun r13 => if 0 ≤ r13.1 ∧ r13.1 ≤ 1 then some (r13.1, r13.2) else none else if x2 < 0 then (zcall w d 73 [zA 7 11 78, zI x4] σ).bind fun r14 => if 0 ≤ r14.1 ∧ r14.1 ≤ 1 then some (r14.1, r14.2) else none else if x2 < 6 then if x3 = 0 then if (0 : Int) ≤ x2 ∧ x2 < 6 then (zcall w d 31 [zI x1, zI x2, zA 20 6 84] (zup σ 84 x2 x5)).bind fun r15 => if r15.1 = 0 then (zcall w d 73 [zA 7 11 78, zI x4] r15.2).bind fun r16 => if r16.1 = 0 then some (0, r16.2) else some (1, r16.2) else some (1, r15.2) else none else if (0 : Int) ≤ x2 ∧ x2 < 6 then (zcall w d 31 [zI x1, zI x2, zA 20 6 84] (zup σ 84 x2 (zar 5 x5 0))).bind fun r17 => if r17.1 = 0 then (zcall w d 73 [zA 7 11 78, zI x4] r17.2).bind fun r18 => if r18.1 = 0 then some (0, r18.2) else some (1, r18.2) else some (1, r17.2) else none else (zcall w d 73 [zA 7 11 78, zI x4] σ).bind fun r19 => if 0 ≤ r19.1 ∧ r19.1 ≤ 1 then some (r19.1, r19.2) else none :=
  (zunr_eq w zc_X6_readNumber [33] (d + 1) 79 rfl 154 _ _ _ _).symm
set_option maxRecDepth 100000 in
theorem eX7_heldBy (w : zW) (d : Nat) (x1 : Int) (σ : zMem) : zcall w (d + 1) 81 [zA 8 3 74, zI x1] σ =
  (zcall w d 201 [zI x1] σ).bind fun r1 => if r1.1 = 0 then some (-1, r1.2) else if (0 : Int) ≤ x1 ∧ x1 < 8 then some (r1.2 75 x1, r1.2) else none :=
  (zcall_eq rfl).trans (zunr_eq w zc_X7_heldBy [] (d + 1) 81 rfl 60 _ _ _ _).symm
set_option maxRecDepth 100000 in
theorem eX7_sizeOf (w : zW) (d : Nat) (x1 : Int) (σ : zMem) : zcall w (d + 1) 82 [zA 8 3 74, zI x1] σ =
  (zcall w d 201 [zI x1] σ).bind fun r1 => if r1.1 = 0 then some (0, r1.2) else if (0 : Int) ≤ x1 ∧ x1 < 8 then some (r1.2 76 x1, r1.2) else none :=
  (zcall_eq rfl).trans (zunr_eq w zc_X7_sizeOf [] (d + 1) 82 rfl 60 _ _ _ _).symm
set_option maxRecDepth 100000 in
theorem eX7_full (w : zW) (d : Nat) (σ : zMem) : zcall w d 83 [zA 8 3 74] σ =
  zden w d 83 4 [zA 8 3 74, zI 0, zI 0] [] σ :=
  (zcall_eq rfl).trans (zunr_eq w zc_X7_full [4] d 83 rfl 75 _ _ _ _).symm
set_option maxRecDepth 100000 in
theorem hX7_full_4 (w : zW) (d : Nat) (x1 x2 : Int) (σ : zMem) : zden w d 83 4 [zA 8 3 74, zI x1, zI x2] [] σ =
  if x2 < 8 then if (0 : Int) ≤ x2 ∧ x2 < 8 then if (σ 75 x2) = (-1) then zden w d 83 4 [zA 8 3 74, zI (zar 0 x1 0), zI (zar 0 x2 1)] [] σ else zden w d 83 4 [zA 8 3 74, zI (zar 0 x1 1), zI (zar 0 x2 1)] [] σ else none else some (x1, σ) :=
  (zunr_eq w zc_X7_full [4] d 83 rfl 75 _ _ _ _).symm
set_option maxRecDepth 100000 in
theorem eX7_putRow (w : zW) (d : Nat) (x1 x2 x3 : Int) (σ : zMem) : zcall w (d + 1) 84 [zA 8 3 74, zI x1, zI x2, zI x3] σ =
  (zcall w d 201 [zI x1] σ).bind fun r1 => if r1.1 = 0 then some (0, r1.2) else if (0 : Int) ≤ x1 ∧ x1 < 8 then if (0 : Int) ≤ x1 ∧ x1 < 8 then zden w (d + 1) 84 16 [zA 8 3 74, zI x1, zI x2, zI x3, zI 0] [] (zup (zup r1.2 75 x1 x2) 76 x1 x3) else none else none :=
  (zcall_eq rfl).trans (zunr_eq w zc_X7_putRow [16] (d + 1) 84 rfl 81 _ _ _ _).symm
set_option maxRecDepth 100000 in
theorem hX7_putRow_16 (w : zW) (d : Nat) (x1 x4 : Int) (v2 v3 : zV) (σ : zMem) : zden w (d + 1) 84 16 [zA 8 3 74, zI x1, v2, v3, zI x4] [] σ =
  if x4 < 40 then if (0 : Int) ≤ (zar 0 (zar 2 x1 40) x4) ∧ (zar 0 (zar 2 x1 40) x4) < 320 then zden w (d + 1) 84 16 [zA 8 3 74, zI x1, v2, (zlng 0 v3), zI (zar 0 x4 1)] [] (zup σ 77 (zar 0 (zar 2 x1 40) x4) 0) else none else some (0, σ) :=
  (zunr_eq w zc_X7_putRow [16] (d + 1) 84 rfl 81 _ _ _ _).symm
set_option maxRecDepth 100000 in
theorem eX7_putShape (w : zW) (d : Nat) (x1 x2 : Int) (σ : zMem) : zcall w (d + 1) 85 [zA 8 3 74, zI x1, zI x2] σ =
  (zcall w d 201 [zI x1] σ).bind fun r1 => if r1.1 = 0 then some (0, r1.2) else if x2 = (-1) then if (0 : Int) ≤ x1 ∧ x1 < 8 then if (0 : Int) ≤ x1 ∧ x1 < 8 then some (0, zup (zup r1.2 75 x1 (-1)) 76 x1 0) else none else none else if (0 : Int) ≤ x1 ∧ x1 < 8 then if (0 : Int) ≤ x1 ∧ x1 < 8 then some (0, zup (zup r1.2 75 x1 (zar 0 10 x2)) 76 x1 0) else none else none :=
  (zcall_eq rfl).trans (zunr_eq w zc_X7_putShape [] (d + 1) 85 rfl 71 _ _ _ _).symm
set_option maxRecDepth 100000 in
theorem eX7_keepShapesBelow (w : zW) (d : Nat) (x1 : Int) (σ : zMem) : zcall w d 86 [zA 8 3 74, zI x1] σ =
  zden w d 86 2 [zA 8 3 74, zI x1, zI 0] [] σ :=
  (zcall_eq rfl).trans (zunr_eq w zc_X7_keepShapesBelow [2] d 86 rfl 73 _ _ _ _).symm
set_option maxRecDepth 100000 in
theorem hX7_keepShapesBelow_2 (w : zW) (d : Nat) (x1 x2 : Int) (σ : zMem) : zden w d 86 2 [zA 8 3 74, zI x1, zI x2] [] σ =
  if x2 < 8 then if (0 : Int) ≤ x2 ∧ x2 < 8 then if (σ 75 x2) < (zar 0 10 x1) then zden w d 86 2 [zA 8 3 74, zI x1, zI (zar 0 x2 1)] [] σ else if (0 : Int) ≤ x2 ∧ x2 < 8 then zden w d 86 2 [zA 8 3 74, zI x1, zI (zar 0 x2 1)] [] (zup σ 75 x2 (-1)) else none else none else some (0, σ) :=
  (zunr_eq w zc_X7_keepShapesBelow [2] d 86 rfl 73 _ _ _ _).symm
set_option maxRecDepth 100000 in
theorem eX7_isElement (w : zW) (d : Nat) (x1 x2 : Int) (σ : zMem) : zcall w (d + 1) 87 [zA 8 3 74, zI x1, zI x2] σ =
  (zcall w d 201 [zI x1] σ).bind fun r1 => if r1.1 = 0 then some (0, r1.2) else (zcall w d 200 [zI x2, zI 0, zI 39] r1.2).bind fun r2 => if r2.1 = 0 then some (0, r2.2) else if (0 : Int) ≤ x1 ∧ x1 < 8 then if x2 < (r2.2 76 x1) then some (1, r2.2) else some (0, r2.2) else none :=
  (zcall_eq rfl).trans (zunr_eq w zc_X7_isElement [] (d + 1) 87 rfl 68 _ _ _ _).symm
set_option maxRecDepth 100000 in
theorem eX7_elementOf (w : zW) (d : Nat) (x1 x2 : Int) (σ : zMem) : zcall w (d + 1) 88 [zA 8 3 74, zI x1, zI x2] σ =
  (zcall w d 87 [zA 8 3 74, zI x1, zI x2] σ).bind fun r1 => if r1.1 = 0 then some (0, r1.2) else if (0 : Int) ≤ (zar 0 (zar 2 x1 40) x2) ∧ (zar 0 (zar 2 x1 40) x2) < 320 then some (r1.2 77 (zar 0 (zar 2 x1 40) x2), r1.2) else none :=
  (zcall_eq rfl).trans (zunr_eq w zc_X7_elementOf [] (d + 1) 88 rfl 66 _ _ _ _).symm
set_option maxRecDepth 100000 in
theorem eX7_putElement (w : zW) (d : Nat) (x1 x2 x3 : Int) (σ : zMem) : zcall w (d + 1) 89 [zA 8 3 74, zI x1, zI x2, zJ x3] σ =
  (zcall w d 87 [zA 8 3 74, zI x1, zI x2] σ).bind fun r1 => if r1.1 = 0 then some (0, r1.2) else if (0 : Int) ≤ x1 ∧ x1 < 8 then (zcall w d 90 [zI (r1.2 75 x1), zJ x3] r1.2).bind fun r2 => if (0 : Int) ≤ (zar 0 (zar 2 x1 40) x2) ∧ (zar 0 (zar 2 x1 40) x2) < 320 then some (0, zup r2.2 77 (zar 0 (zar 2 x1 40) x2) r2.1) else none else none :=
  (zcall_eq rfl).trans (zunr_eq w zc_X7_putElement [] (d + 1) 89 rfl 70 _ _ _ _).symm
set_option maxRecDepth 100000 in
theorem eX7_narrowed (w : zW) (d : Nat) (x1 x2 : Int) (σ : zMem) : zcall w d 90 [zI x1, zJ x2] σ =
  if x1 = 0 then some (zar 24 (zar 23 x2 0) 0, σ) else if x1 = 1 then some (zar 25 (zar 23 x2 0) 0, σ) else if x1 = 2 then some (zar 23 x2 0, σ) else if x1 = 3 then some (x2, σ) else if x1 = 4 then if (zar 22 x2 0) = 0 then some (0, σ) else some (1, σ) else some (x2, σ) :=
  (zcall_eq rfl).trans (zunr_eq w zc_X7_narrowed [] d 90 rfl 76 _ _ _ _).symm
set_option maxRecDepth 100000 in
theorem eX7_moveElements (w : zW) (d : Nat) (x1 x2 x3 x4 x5 : Int) (σ : zMem) : zcall w (d + 1) 91 [zA 8 3 74, zI x1, zI x2, zI x3, zI x4, zI x5] σ =
  if 0 < x5 then (zcall w d 87 [zA 8 3 74, zI x1, zI x3] σ).bind fun r1 => if r1.1 = 0 then some (0, r1.2) else (zcall w d 87 [zA 8 3 74, zI x1, zI (zar 1 (zar 0 x3 x5) 1)] r1.2).bind fun r2 => if r2.1 = 0 then some (0, r2.2) else (zcall w d 87 [zA 8 3 74, zI x2, zI x4] r2.2).bind fun r3 => if r3.1 = 0 then some (0, r3.2) else (zcall w d 87 [zA 8 3 74, zI x2, zI (zar 1 (zar 0 x4 x5) 1)] r3.2).bind fun r4 => if r4.1 = 0 then some (0, r4.2) else if (21 : Int) = 21 ∧ ((21 : Int) = 20 ∨ (21 : Int) = 21) ∧ (0 : Int) ≤ x5 ∧ (0 : Int) ≤ (zar 0 (zar 2 x1 40) x3) ∧ (0 : Int) ≤ (zar 0 (zar 2 x2 40) x4) ∧ ((zar 0 (zar 2 x1 40) x3) : Int) + x5 ≤ 320 ∧ ((zar 0 (zar 2 x2 40) x4) : Int) + x5 ≤ 320 ∧ 0 ≤ 8 then some (0, zfc r4.2 77 (zar 0 (zar 2 x1 40) x3) 77 (zar 0 (zar 2 x2 40) x4) x5) else none else some (0, σ) :=
  (zcall_eq rfl).trans (zunr_eq w zc_X7_moveElements [] (d + 1) 91 rfl 97 _ _ _ _).symm
set_option maxRecDepth 100000 in
theorem eX8_putFrom (w : zW) (d : Nat) (a0 x1 x2 x3 : Int) (σ : zMem) : zcall w d 93 [zA 9 3 a0, zI x1, zI x2, zI x3] σ =
  some (0, zup (zup (zup σ (zR w a0 0) 0 x1) (zR w a0 0) 1 x2) (zR w a0 0) 2 x3) :=
  (zcall_eq rfl).trans (zunr_eq w zc_X8_putFrom [] d 93 rfl 66 _ _ _ _).symm
set_option maxRecDepth 100000 in
theorem eX8_putTo (w : zW) (d : Nat) (a0 x1 x2 x3 : Int) (σ : zMem) : zcall w d 94 [zA 9 3 a0, zI x1, zI x2, zI x3] σ =
  some (0, zup (zup (zup σ (zR w a0 0) 3 x1) (zR w a0 0) 4 x2) (zR w a0 0) 5 x3) :=
  (zcall_eq rfl).trans (zunr_eq w zc_X8_putTo [] d 94 rfl 66 _ _ _ _).symm
set_option maxRecDepth 100000 in
theorem eX8_lowest (w : zW) (d : Nat) (a0 : Int) (σ : zMem) : zcall w d 95 [zA 9 3 a0] σ =
  some (zR w (zR w a0 1) 0, σ) :=
  (zcall_eq rfl).trans (zunr_eq w zc_X8_lowest [] d 95 rfl 55 _ _ _ _).symm
set_option maxRecDepth 100000 in
theorem eX8_highest (w : zW) (d : Nat) (a0 : Int) (σ : zMem) : zcall w d 96 [zA 9 3 a0] σ =
  some (zR w (zR w a0 2) 0, σ) :=
  (zcall_eq rfl).trans (zunr_eq w zc_X8_highest [] d 96 rfl 55 _ _ _ _).symm
set_option maxRecDepth 100000 in
theorem eX8_findFor (w : zW) (d : Nat) (a0 a1 x2 : Int) (σ : zMem) : zcall w (d + 1) 97 [zA 9 3 a0, zA 10 8 a1, zI x2] σ =
  (zcall w d 98 [zA 9 3 a0, zA 10 8 a1, zI x2, zI 0, zI 0] σ).bind fun r1 => some (0, r1.2) :=
  (zcall_eq rfl).trans (zunr_eq w zc_X8_findFor [] (d + 1) 97 rfl 57 _ _ _ _).symm
set_option maxRecDepth 100000 in
theorem eX8_find (w : zW) (d : Nat) (a0 a1 x2 x3 x4 : Int) (σ : zMem) : zcall w (d + 1) 98 [zA 9 3 a0, zA 10 8 a1, zI x2, zI x3, zI x4] σ =
  if x3 < 0 then some (0, σ) else if x4 < x3 then some (0, σ) else if x4 < 7 then (zcall w d 112 [zA 10 8 a1, zI x2] σ).bind fun r1 => if r1.1 = 3 then (zcall w d 99 [zA 9 3 a0, zA 10 8 a1, zI x2, zI (zar 2 x3 6), zI x4] r1.2).bind fun r2 => some (0, r2.2) else if r1.1 = 4 then (zcall w d 100 [zA 9 3 a0, zA 10 8 a1, zI x2, zI (zar 2 x3 6), zI x4] r1.2).bind fun r3 => some (0, r3.2) else if r1.1 = 5 then (zcall w d 101 [zA 9 3 a0, zA 10 8 a1, zI x2, zI (zar 2 x3 6), zI x4] r1.2).bind fun r4 => some (0, r4.2) else if r1.1 = 6 then (zcall w d 103 [zA 9 3 a0, zA 10 8 a1, zI x2, zI x3, zI x4] r1.2).bind fun r5 => some (0, r5.2) else if r1.1 = 7 then (zcall w d 103 [zA 9 3 a0, zA 10 8 a1, zI x2, zI x3, zI x4] r1.2).bind fun r6 => some (0, r6.2) else if r1.1 = 8 then (zcall w d 102 [zA 9 3 a0, zA 10 8 a1, zI x2, zI x3, zI x4] r1.2).bind fun r7 => some (0, r7.2) else if r1.1 = 9 then (zcall w d 102 [zA 9 3 a0, zA 10 8 a1, zI x2, zI x3, zI x4] r1.2).bind fun r8 => some (0, r8.2) else if r1.1 = 10 then (zcall w d 102 [zA 9 3 a0, zA 10 8 a1, zI x2, zI x3, zI x4] r1.2).bind fun r9 => some (0, r9.2) else if r1.1 = 11 then (zcall w d 102 [zA 9 3 a0, zA 10 8 a1, zI x2, zI x3, zI x4] r1.2).bind fun r10 => some (0, r10.2) else (zcall w d 103 [zA 9 3 a0, zA 10 8 a1, zI x2, zI x3, zI x4] r1.2).bind fun r11 => some (0, r11.2) else some (0, σ) :=
  (zcall_eq rfl).trans (zunr_eq w zc_X8_find [] (d + 1) 98 rfl 104 _ _ _ _).symm
set_option maxRecDepth 100000 in
theorem eX8_ofBall (w : zW) (d : Nat) (a0 a1 x2 x3 x4 : Int) (σ : zMem) : zcall w (d + 1) 99 [zA 9 3 a0, zA 10 8 a1, zI x2, zI x3, zI x4] σ =
  (zcall w d 118 [zA 10 8 a1, zI x2, zI 3] σ).bind fun r1 => zden w (d + 1) 99 15 [zA 9 3 a0, zA 10 8 a1, zI x2, zI x3, zI x4, zI r1.1, zJ (zar 2 (zar 5 r1.1 0) r1.1), zU, zJ (zar 2 (zar 5 r1.1 0) r1.1), zU, zI 0, zU, zU] [] r1.2 :=
  (zcall_eq rfl).trans (zunr_eq w zc_X8_ofBall [15] (d + 1) 99 rfl 137 _ _ _ _).symm
set_option maxRecDepth 100000 in
theorem hX8_ofBall_15 (w : zW) (d : Nat) (a0 a1 x2 x3 x4 x6 x8 x10 : Int) (v5 v11 v12 : zV) (σ : zMem) : zden w (d + 1) 99 15 [zA 9 3 a0, zA 10 8 a1, zI x2, zI x3, zI x4, v5, zJ x6, zU, zJ x8, zU, zI x10, v11, v12] [] σ =
  if x10 < 3 then if (0 : Int) ≤ (zar 0 x3 x10) ∧ (zar 0 x3 x10) < 48 then (zcall w d 118 [zA 10 8 a1, zI x2, zI x10] σ).bind fun r1 => if (0 : Int) ≤ (zar 0 (zar 0 x3 3) x10) ∧ (zar 0 (zar 0 x3 3) x10) < 48 then (zcall w d 118 [zA 10 8 a1, zI x2, zI x10] r1.2).bind fun r2 => if 0 < (zar 1 (σ (zR w a0 0) (zar 0 x3 x10)) r1.1) then (zcall w d 343 [zI (zar 2 (zar 1 (σ (zR w a0 0) (zar 0 x3 x10)) r1.1) (zar 1 (σ (zR w a0 0) (zar 0 x3 x10)) r1.1)), zI (zar 2 (zar 1 (r1.2 (zR w a0 0) (zar 0 (zar 0 x3 3) x10)) r2.1) (zar 1 (r1.2 (zR w a0 0) (zar 0 (zar 0 x3 3) x10)) r2.1))] r2.2).bind fun r3 => (zcall w d 341 [zI (zar 2 (zar 1 (σ (zR w a0 0) (zar 0 x3 x10)) r1.1) (zar 1 (σ (zR w a0 0) (zar 0 x3 x10)) r1.1)), zI (zar 2 (zar 1 (r1.2 (zR w a0 0) (zar 0 (zar 0 x3 3) x10)) r2.1) (zar 1 (r1.2 (zR w a0 0) (zar 0 (zar 0 x3 3) x10)) r2.1))] r3.2).bind fun r4 => zden w (d + 1) 99 15 [zA 9 3 a0, zA 10 8 a1, zI x2, zI x3, zI x4, (zlng 0 v5), zJ (zar 12 x6 r3.1), zU, zJ (zar 12 x8 r4.1), zU, zI (zar 0 x10 1), zI (zar 1 (σ (zR w a0 0) (zar 0 x3 x10)) r1.1), zI (zar 1 (r1.2 (zR w a0 0) (zar 0 (zar 0 x3 3) x10)) r2.1)] [] r4.2 else if (zar 1 (r1.2 (zR w a0 0) (zar 0 (zar 0 x3 3) x10)) r2.1) < 0 then (zcall w d 343 [zI (zar 2 (zar 1 (σ (zR w a0 0) (zar 0 x3 x10)) r1.1) (zar 1 (σ (zR w a0 0) (zar 0 x3 x10)) r1.1)), zI (zar 2 (zar 1 (r1.2 (zR w a0 0) (zar 0 (zar 0 x3 3) x10)) r2.1) (zar 1 (r1.2 (zR w a0 0) (zar 0 (zar 0 x3 3) x10)) r2.1))] r2.2).bind fun r5 => (zcall w d 341 [zI (zar 2 (zar 1 (σ (zR w a0 0) (zar 0 x3 x10)) r1.1) (zar 1 (σ (zR w a0 0) (zar 0 x3 x10)) r1.1)), zI (zar 2 (zar 1 (r1.2 (zR w a0 0) (zar 0 (zar 0 x3 3) x10)) r2.1) (zar 1 (r1.2 (zR w a0 0) (zar 0 (zar 0 x3 3) x10)) r2.1))] r5.2).bind fun r6 => zden w (d + 1) 99 15 [zA 9 3 a0, zA 10 8 a1, zI x2, zI x3, zI x4, (zlng 0 v5), zJ (zar 12 x6 r5.1), zU, zJ (zar 12 x8 r6.1), zU, zI (zar 0 x10 1), zI (zar 1 (σ (zR w a0 0) (zar 0 x3 x10)) r1.1), zI (zar 1 (r1.2 (zR w a0 0) (zar 0 (zar 0 x3 3) x10)) r2.1)] [] r6.2 else (zcall w d 341 [zI (zar 2 (zar 1 (σ (zR w a0 0) (zar 0 x3 x10)) r1.1) (zar 1 (σ (zR w a0 0) (zar 0 x3 x10)) r1.1)), zI (zar 2 (zar 1 (r1.2 (zR w a0 0) (zar 0 (zar 0 x3 3) x10)) r2.1) (zar 1 (r1.2 (zR w a0 0) (zar 0 (zar 0 x3 3) x10)) r2.1))] r2.2).bind fun r7 => zden w (d + 1) 99 15 [zA 9 3 a0, zA 10 8 a1, zI x2, zI x3, zI x4, (zlng 0 v5), zJ (zar 12 x6 0), zU, zJ (zar 12 x8 r7.1), zU, zI (zar 0 x10 1), zI (zar 1 (σ (zR w a0 0) (zar 0 x3 x10)) r1.1), zI (zar 1 (r1.2 (zR w a0 0) (zar 0 (zar 0 x3 3) x10)) r2.1)] [] r7.2 else none else none else if (0 : Int) ≤ x4 ∧ x4 < 8 then (zcall w d 16 [zA 2 2 (zR w (zR w a0 1) x4), zJ x6] σ).bind fun r8 => if (0 : Int) ≤ x4 ∧ x4 < 8 then (zcall w d 16 [zA 2 2 (zR w (zR w a0 2) x4), zJ x8] r8.2).bind fun r9 => some (0, r9.2) else none else none :=
  (zunr_eq w zc_X8_ofBall [15] (d + 1) 99 rfl 137 _ _ _ _).symm
set_option maxRecDepth 100000 in
theorem eX8_ofBox (w : zW) (d : Nat) (a0 a1 x2 x3 x4 : Int) (σ : zMem) : zcall w (d + 1) 100 [zA 9 3 a0, zA 10 8 a1, zI x2, zI x3, zI x4] σ =
  zden w (d + 1) 100 6 [zA 9 3 a0, zA 10 8 a1, zI x2, zI x3, zI x4, zI (-1000000000), zI (-1000000000), zI 0, zU, zU, zU, zU] [] σ :=
  (zcall_eq rfl).trans (zunr_eq w zc_X8_ofBox [6] (d + 1) 100 rfl 124 _ _ _ _).symm
set_option maxRecDepth 100000 in
theorem hX8_ofBox_6 (w : zW) (d : Nat) (a0 a1 x2 x3 x4 x5 x6 x7 : Int) (v8 v9 v10 v11 : zV) (σ : zMem) : zden w (d + 1) 100 6 [zA 9 3 a0, zA 10 8 a1, zI x2, zI x3, zI x4, zI x5, zI x6, zI x7, v8, v9, v10, v11] [] σ =
  if x7 < 3 then if (0 : Int) ≤ (zar 0 x3 x7) ∧ (zar 0 x3 x7) < 48 then if (0 : Int) ≤ (zar 0 (zar 0 x3 3) x7) ∧ (zar 0 (zar 0 x3 3) x7) < 48 then (zcall w d 118 [zA 10 8 a1, zI x2, zI x7] σ).bind fun r1 => (zcall w d 118 [zA 10 8 a1, zI x2, zI (zar 0 3 x7)] r1.2).bind fun r2 => (zcall w d 341 [zI (zar 1 r1.1 (σ (zR w a0 0) (zar 0 (zar 0 x3 3) x7))), zI (zar 1 (σ (zR w a0 0) (zar 0 x3 x7)) r2.1)] r2.2).bind fun r3 => (zcall w d 341 [zI x5, zI r3.1] r3.2).bind fun r4 => (zcall w d 341 [zI (zar 1 r1.1 (σ (zR w a0 0) (zar 0 x3 x7))), zI (zar 1 (σ (zR w a0 0) (zar 0 (zar 0 x3 3) x7)) r2.1)] r4.2).bind fun r5 => (zcall w d 341 [zI x6, zI r5.1] r5.2).bind fun r6 => zden w (d + 1) 100 6 [zA 9 3 a0, zA 10 8 a1, zI x2, zI x3, zI x4, zI r4.1, zI r6.1, zI (zar 0 x7 1), zI (σ (zR w a0 0) (zar 0 x3 x7)), zI (σ (zR w a0 0) (zar 0 (zar 0 x3 3) x7)), zI r1.1, zI r2.1] [] r6.2 else none else none else if (0 : Int) ≤ x4 ∧ x4 < 8 then (zcall w d 16 [zA 2 2 (zR w (zR w a0 1) x4), zJ x5] σ).bind fun r7 => if (0 : Int) ≤ x4 ∧ x4 < 8 then (zcall w d 16 [zA 2 2 (zR w (zR w a0 2) x4), zJ x6] r7.2).bind fun r8 => some (0, r8.2) else none else none :=
  (zunr_eq w zc_X8_ofBox [6] (d + 1) 100 rfl 124 _ _ _ _).symm
set_option maxRecDepth 100000 in
theorem eX8_ofHalf (w : zW) (d : Nat) (a0 a1 x2 x3 x4 : Int) (σ : zMem) : zcall w (d + 1) 101 [zA 9 3 a0, zA 10 8 a1, zI x2, zI x3, zI x4] σ =
  (zcall w d 118 [zA 10 8 a1, zI x2, zI 3] σ).bind fun r1 => zden w (d + 1) 101 11 [zA 9 3 a0, zA 10 8 a1, zI x2, zI x3, zI x4, zJ (zar 5 r1.1 0), zU, zJ (zar 5 r1.1 0), zU, zI 0, zU, zU] [] r1.2 :=
  (zcall_eq rfl).trans (zunr_eq w zc_X8_ofHalf [11] (d + 1) 101 rfl 119 _ _ _ _).symm
set_option maxRecDepth 100000 in
theorem hX8_ofHalf_11 (w : zW) (d : Nat) (a0 a1 x2 x3 x4 x5 x7 x9 : Int) (v10 v11 : zV) (σ : zMem) : zden w (d + 1) 101 11 [zA 9 3 a0, zA 10 8 a1, zI x2, zI x3, zI x4, zJ x5, zU, zJ x7, zU, zI x9, v10, v11] [] σ =
  if x9 < 3 then if (0 : Int) ≤ (zar 0 x3 x9) ∧ (zar 0 x3 x9) < 48 then (zcall w d 118 [zA 10 8 a1, zI x2, zI x9] σ).bind fun r1 => if (0 : Int) ≤ (zar 0 (zar 0 x3 3) x9) ∧ (zar 0 (zar 0 x3 3) x9) < 48 then (zcall w d 118 [zA 10 8 a1, zI x2, zI x9] r1.2).bind fun r2 => (zcall w d 343 [zI (zar 2 (σ (zR w a0 0) (zar 0 x3 x9)) r1.1), zI (zar 2 (r1.2 (zR w a0 0) (zar 0 (zar 0 x3 3) x9)) r2.1)] r2.2).bind fun r3 => (zcall w d 341 [zI (zar 2 (σ (zR w a0 0) (zar 0 x3 x9)) r1.1), zI (zar 2 (r1.2 (zR w a0 0) (zar 0 (zar 0 x3 3) x9)) r2.1)] r3.2).bind fun r4 => zden w (d + 1) 101 11 [zA 9 3 a0, zA 10 8 a1, zI x2, zI x3, zI x4, zJ (zar 12 x5 r3.1), zU, zJ (zar 12 x7 r4.1), zU, zI (zar 0 x9 1), zI (zar 2 (σ (zR w a0 0) (zar 0 x3 x9)) r1.1), zI (zar 2 (r1.2 (zR w a0 0) (zar 0 (zar 0 x3 3) x9)) r2.1)] [] r4.2 else none else none else if (0 : Int) ≤ x4 ∧ x4 < 8 then (zcall w d 16 [zA 2 2 (zR w (zR w a0 1) x4), zJ x5] σ).bind fun r5 => if (0 : Int) ≤ x4 ∧ x4 < 8 then (zcall w d 16 [zA 2 2 (zR w (zR w a0 2) x4), zJ x7] r5.2).bind fun r6 => some (0, r6.2) else none else none :=
  (zunr_eq w zc_X8_ofHalf [11] (d + 1) 101 rfl 119 _ _ _ _).symm
set_option maxRecDepth 100000 in
theorem eX8_ofPair (w : zW) (d : Nat) (a0 a1 x2 x3 x4 : Int) (σ : zMem) : zcall w (d + 1) 102 [zA 9 3 a0, zA 10 8 a1, zI x2, zI x3, zI x4] σ =
  (zcall w d 113 [zA 10 8 a1, zI x2] σ).bind fun r1 => (zcall w d 114 [zA 10 8 a1, zI x2] r1.2).bind fun r2 => (zcall w d 98 [zA 9 3 a0, zA 10 8 a1, zI r1.1, zI x3, zI (zar 0 x4 1)] r2.2).bind fun r3 => if (0 : Int) ≤ x4 ∧ x4 < 8 then if (0 : Int) ≤ (zar 0 x4 1) ∧ (zar 0 x4 1) < 8 then (zcall w d 18 [zA 2 2 (zR w (zR w a0 1) x4), zA 2 2 (zR w (zR w a0 1) (zar 0 x4 1))] r3.2).bind fun r4 => if (0 : Int) ≤ x4 ∧ x4 < 8 then if (0 : Int) ≤ (zar 0 x4 1) ∧ (zar 0 x4 1) < 8 then (zcall w d 18 [zA 2 2 (zR w (zR w a0 2) x4), zA 2 2 (zR w (zR w a0 2) (zar 0 x4 1))] r4.2).bind fun r5 => if r2.1 = r1.1 then if (0 : Int) ≤ (zar 0 x4 1) ∧ (zar 0 x4 1) < 8 then if (0 : Int) ≤ (zar 0 x4 1) ∧ (zar 0 x4 1) < 8 then (zcall w d 112 [zA 10 8 a1, zI x2] r5.2).bind fun r6 => if r6.1 = 8 then zden w (d + 1) 102 67 [zA 9 3 a0, zA 10 8 a1, zI x2, zI x3, zI x4, zI r1.1, zI r2.1, zA 2 2 (zR w (zR w a0 1) (zar 0 x4 1)), zA 2 2 (zR w (zR w a0 2) (zar 0 x4 1))] [] r6.2 else if r6.1 = 9 then zden w (d + 1) 102 80 [zA 9 3 a0, zA 10 8 a1, zI x2, zI x3, zI x4, zI r1.1, zI r2.1, zA 2 2 (zR w (zR w a0 1) (zar 0 x4 1)), zA 2 2 (zR w (zR w a0 2) (zar 0 x4 1))] [] r6.2 else if r6.1 = 10 then zden w (d + 1) 102 93 [zA 9 3 a0, zA 10 8 a1, zI x2, zI x3, zI x4, zI r1.1, zI r2.1, zA 2 2 (zR w (zR w a0 1) (zar 0 x4 1)), zA 2 2 (zR w (zR w a0 2) (zar 0 x4 1))] [] r6.2 else zden w (d + 1) 102 110 [zA 9 3 a0, zA 10 8 a1, zI x2, zI x3, zI x4, zI r1.1, zI r2.1, zA 2 2 (zR w (zR w a0 1) (zar 0 x4 1)), zA 2 2 (zR w (zR w a0 2) (zar 0 x4 1))] [] r6.2 else none else none else (zcall w d 98 [zA 9 3 a0, zA 10 8 a1, zI r2.1, zI x3, zI (zar 0 x4 1)] r5.2).bind fun r7 => if (0 : Int) ≤ (zar 0 x4 1) ∧ (zar 0 x4 1) < 8 then if (0 : Int) ≤ (zar 0 x4 1) ∧ (zar 0 x4 1) < 8 then (zcall w d 112 [zA 10 8 a1, zI x2] r7.2).bind fun r8 => if r8.1 = 8 then zden w (d + 1) 102 67 [zA 9 3 a0, zA 10 8 a1, zI x2, zI x3, zI x4, zI r1.1, zI r2.1, zA 2 2 (zR w (zR w a0 1) (zar 0 x4 1)), zA 2 2 (zR w (zR w a0 2) (zar 0 x4 1))] [] r8.2 else if r8.1 = 9 then zden w (d + 1) 102 80 [zA 9 3 a0, zA 10 8 a1, zI x2, zI x3, zI x4, zI r1.1, zI r2.1, zA 2 2 (zR w (zR w a0 1) (zar 0 x4 1)), zA 2 2 (zR w (zR w a0 2) (zar 0 x4 1))] [] r8.2 else if r8.1 = 10 then zden w (d + 1) 102 93 [zA 9 3 a0, zA 10 8 a1, zI x2, zI x3, zI x4, zI r1.1, zI r2.1, zA 2 2 (zR w (zR w a0 1) (zar 0 x4 1)), zA 2 2 (zR w (zR w a0 2) (zar 0 x4 1))] [] r8.2 else zden w (d + 1) 102 110 [zA 9 3 a0, zA 10 8 a1, zI x2, zI x3, zI x4, zI r1.1, zI r2.1, zA 2 2 (zR w (zR w a0 1) (zar 0 x4 1)), zA 2 2 (zR w (zR w a0 2) (zar 0 x4 1))] [] r8.2 else none else none else none else none else none else none :=
  (zcall_eq rfl).trans (zunr_eq w zc_X8_ofPair [67, 80, 93, 110] (d + 1) 102 rfl 189 _ _ _ _).symm
set_option maxRecDepth 100000 in
theorem hX8_ofPair_67 (w : zW) (d : Nat) (a0 x4 a7 a8 : Int) (v1 v2 v3 v5 v6 : zV) (σ : zMem) : zden w (d + 1) 102 67 [zA 9 3 a0, v1, v2, v3, zI x4, v5, v6, zA 2 2 a7, zA 2 2 a8] [] σ =
  if (0 : Int) ≤ x4 ∧ x4 < 8 then (zcall w d 19 [zA 2 2 (zR w (zR w a0 1) x4), zA 2 2 a7] σ).bind fun r1 => if (0 : Int) ≤ x4 ∧ x4 < 8 then (zcall w d 19 [zA 2 2 (zR w (zR w a0 2) x4), zA 2 2 a8] r1.2).bind fun r2 => some (0, r2.2) else none else none :=
  (zunr_eq w zc_X8_ofPair [67, 80, 93, 110] (d + 1) 102 rfl 189 _ _ _ _).symm
set_option maxRecDepth 100000 in
theorem hX8_ofPair_80 (w : zW) (d : Nat) (a0 x4 a7 a8 : Int) (v1 v2 v3 v5 v6 : zV) (σ : zMem) : zden w (d + 1) 102 80 [zA 9 3 a0, v1, v2, v3, zI x4, v5, v6, zA 2 2 a7, zA 2 2 a8] [] σ =
  if (0 : Int) ≤ x4 ∧ x4 < 8 then (zcall w d 20 [zA 2 2 (zR w (zR w a0 1) x4), zA 2 2 a7] σ).bind fun r1 => if (0 : Int) ≤ x4 ∧ x4 < 8 then (zcall w d 20 [zA 2 2 (zR w (zR w a0 2) x4), zA 2 2 a8] r1.2).bind fun r2 => some (0, r2.2) else none else none :=
  (zunr_eq w zc_X8_ofPair [67, 80, 93, 110] (d + 1) 102 rfl 189 _ _ _ _).symm
set_option maxRecDepth 100000 in
theorem hX8_ofPair_93 (w : zW) (d : Nat) (a0 x4 a7 a8 : Int) (v1 v2 v3 v5 v6 : zV) (σ : zMem) : zden w (d + 1) 102 93 [zA 9 3 a0, v1, v2, v3, zI x4, v5, v6, zA 2 2 a7, zA 2 2 a8] [] σ =
  (zcall w d 22 [zA 2 2 a7] σ).bind fun r1 => (zcall w d 22 [zA 2 2 a8] r1.2).bind fun r2 => if (0 : Int) ≤ x4 ∧ x4 < 8 then (zcall w d 20 [zA 2 2 (zR w (zR w a0 1) x4), zA 2 2 a8] r2.2).bind fun r3 => if (0 : Int) ≤ x4 ∧ x4 < 8 then (zcall w d 20 [zA 2 2 (zR w (zR w a0 2) x4), zA 2 2 a7] r3.2).bind fun r4 => some (0, r4.2) else none else none :=
  (zunr_eq w zc_X8_ofPair [67, 80, 93, 110] (d + 1) 102 rfl 189 _ _ _ _).symm
set_option maxRecDepth 100000 in
theorem hX8_ofPair_110 (w : zW) (d : Nat) (a0 a1 x2 x4 a7 a8 : Int) (v3 v5 v6 : zV) (σ : zMem) : zden w (d + 1) 102 110 [zA 9 3 a0, zA 10 8 a1, zI x2, v3, zI x4, v5, v6, zA 2 2 a7, zA 2 2 a8] [] σ =
  if (0 : Int) ≤ x4 ∧ x4 < 8 then (zcall w d 118 [zA 10 8 a1, zI x2, zI 0] σ).bind fun r1 => (zcall w d 118 [zA 10 8 a1, zI x2, zI 1] r1.2).bind fun r2 => (zcall w d 25 [zA 2 2 (zR w (zR w a0 1) x4), zA 2 2 a7, zI r1.1, zI r2.1] r2.2).bind fun r3 => if (0 : Int) ≤ x4 ∧ x4 < 8 then (zcall w d 118 [zA 10 8 a1, zI x2, zI 0] r3.2).bind fun r4 => (zcall w d 118 [zA 10 8 a1, zI x2, zI 1] r4.2).bind fun r5 => (zcall w d 25 [zA 2 2 (zR w (zR w a0 2) x4), zA 2 2 a8, zI r4.1, zI r5.1] r5.2).bind fun r6 => some (0, r6.2) else none else none :=
  (zunr_eq w zc_X8_ofPair [67, 80, 93, 110] (d + 1) 102 rfl 189 _ _ _ _).symm
set_option maxRecDepth 100000 in
theorem eX8_ofChange (w : zW) (d : Nat) (a0 a1 x2 x3 x4 : Int) (σ : zMem) : zcall w (d + 1) 103 [zA 9 3 a0, zA 10 8 a1, zI x2, zI x3, zI x4] σ =
  (zcall w d 112 [zA 10 8 a1, zI x2] σ).bind fun r1 => if r1.1 = 16 then (zcall w d 113 [zA 10 8 a1, zI x2] r1.2).bind fun r2 => (zcall w d 98 [zA 9 3 a0, zA 10 8 a1, zI r2.1, zI x3, zI (zar 0 x4 1)] r2.2).bind fun r3 => if (0 : Int) ≤ x4 ∧ x4 < 8 then if (0 : Int) ≤ (zar 0 x4 1) ∧ (zar 0 x4 1) < 8 then (zcall w d 18 [zA 2 2 (zR w (zR w a0 1) x4), zA 2 2 (zR w (zR w a0 1) (zar 0 x4 1))] r3.2).bind fun r4 => if (0 : Int) ≤ x4 ∧ x4 < 8 then if (0 : Int) ≤ (zar 0 x4 1) ∧ (zar 0 x4 1) < 8 then (zcall w d 18 [zA 2 2 (zR w (zR w a0 2) x4), zA 2 2 (zR w (zR w a0 2) (zar 0 x4 1))] r4.2).bind fun r5 => if r1.1 = 17 then if (0 : Int) ≤ x4 ∧ x4 < 8 then if (0 : Int) ≤ x4 ∧ x4 < 8 then (zcall w d 104 [zA 2 2 (zR w (zR w a0 1) x4), zA 2 2 (zR w (zR w a0 2) x4)] r5.2).bind fun r6 => if (0 : Int) ≤ x4 ∧ x4 < 8 then (zcall w d 118 [zA 10 8 a1, zI x2, zI 0] r6.2).bind fun r7 => (zcall w d 118 [zA 10 8 a1, zI x2, zI 1] r7.2).bind fun r8 => (zcall w d 24 [zA 2 2 (zR w (zR w a0 1) x4), zI r7.1, zI r8.1] r8.2).bind fun r9 => if (0 : Int) ≤ x4 ∧ x4 < 8 then (zcall w d 118 [zA 10 8 a1, zI x2, zI 0] r9.2).bind fun r10 => (zcall w d 118 [zA 10 8 a1, zI x2, zI 1] r10.2).bind fun r11 => (zcall w d 24 [zA 2 2 (zR w (zR w a0 2) x4), zI r10.1, zI r11.1] r11.2).bind fun r12 => some (0, r12.2) else none else none else none else none else if (0 : Int) ≤ x4 ∧ x4 < 8 then (zcall w d 118 [zA 10 8 a1, zI x2, zI 0] r5.2).bind fun r13 => (zcall w d 118 [zA 10 8 a1, zI x2, zI 1] r13.2).bind fun r14 => (zcall w d 24 [zA 2 2 (zR w (zR w a0 1) x4), zI r13.1, zI r14.1] r14.2).bind fun r15 => if (0 : Int) ≤ x4 ∧ x4 < 8 then (zcall w d 118 [zA 10 8 a1, zI x2, zI 0] r15.2).bind fun r16 => (zcall w d 118 [zA 10 8 a1, zI x2, zI 1] r16.2).bind fun r17 => (zcall w d 24 [zA 2 2 (zR w (zR w a0 2) x4), zI r16.1, zI r17.1] r17.2).bind fun r18 => some (0, r18.2) else none else none else none else none else none else none else if r1.1 = 17 then (zcall w d 113 [zA 10 8 a1, zI x2] r1.2).bind fun r19 => (zcall w d 98 [zA 9 3 a0, zA 10 8 a1, zI r19.1, zI x3, zI (zar 0 x4 1)] r19.2).bind fun r20 => if (0 : Int) ≤ x4 ∧ x4 < 8 then if (0 : Int) ≤ (zar 0 x4 1) ∧ (zar 0 x4 1) < 8 then (zcall w d 18 [zA 2 2 (zR w (zR w a0 1) x4), zA 2 2 (zR w (zR w a0 1) (zar 0 x4 1))] r20.2).bind fun r21 => if (0 : Int) ≤ x4 ∧ x4 < 8 then if (0 : Int) ≤ (zar 0 x4 1) ∧ (zar 0 x4 1) < 8 then (zcall w d 18 [zA 2 2 (zR w (zR w a0 2) x4), zA 2 2 (zR w (zR w a0 2) (zar 0 x4 1))] r21.2).bind fun r22 => if r1.1 = 17 then if (0 : Int) ≤ x4 ∧ x4 < 8 then if (0 : Int) ≤ x4 ∧ x4 < 8 then (zcall w d 104 [zA 2 2 (zR w (zR w a0 1) x4), zA 2 2 (zR w (zR w a0 2) x4)] r22.2).bind fun r23 => if (0 : Int) ≤ x4 ∧ x4 < 8 then (zcall w d 118 [zA 10 8 a1, zI x2, zI 0] r23.2).bind fun r24 => (zcall w d 118 [zA 10 8 a1, zI x2, zI 1] r24.2).bind fun r25 => (zcall w d 24 [zA 2 2 (zR w (zR w a0 1) x4), zI r24.1, zI r25.1] r25.2).bind fun r26 => if (0 : Int) ≤ x4 ∧ x4 < 8 then (zcall w d 118 [zA 10 8 a1, zI x2, zI 0] r26.2).bind fun r27 => (zcall w d 118 [zA 10 8 a1, zI x2, zI 1] r27.2).bind fun r28 => (zcall w d 24 [zA 2 2 (zR w (zR w a0 2) x4), zI r27.1, zI r28.1] r28.2).bind fun r29 => some (0, r29.2) else none else none else none else none else if (0 : Int) ≤ x4 ∧ x4 < 8 then (zcall w d 118 [zA 10 8 a1, zI x2, zI 0] r22.2).bind fun r30 => (zcall w d 118 [zA 10 8 a1, zI x2, zI 1] r30.2).bind fun r31 => (zcall w d 24 [zA 2 2 (zR w (zR w a0 1) x4), zI r30.1, zI r31.1] r31.2).bind fun r32 => if (0 : Int) ≤ x4 ∧ x4 < 8 then (zcall w d 118 [zA 10 8 a1, zI x2, zI 0] r32.2).bind fun r33 => (zcall w d 118 [zA 10 8 a1, zI x2, zI 1] r33.2).bind fun r34 => (zcall w d 24 [zA 2 2 (zR w (zR w a0 2) x4), zI r33.1, zI r34.1] r34.2).bind fun r35 => some (0, r35.2) else none else none else none else none else none else none else (zcall w d 105 [zA 9 3 a0, zA 10 8 a1, zI x2, zI (zar 2 x3 6)] r1.2).bind fun r36 => (zcall w d 113 [zA 10 8 a1, zI x2] r36.2).bind fun r37 => (zcall w d 98 [zA 9 3 a0, zA 10 8 a1, zI r37.1, zI (zar 0 x3 1), zI (zar 0 x4 1)] r37.2).bind fun r38 => if (0 : Int) ≤ x4 ∧ x4 < 8 then if (0 : Int) ≤ (zar 0 x4 1) ∧ (zar 0 x4 1) < 8 then (zcall w d 18 [zA 2 2 (zR w (zR w a0 1) x4), zA 2 2 (zR w (zR w a0 1) (zar 0 x4 1))] r38.2).bind fun r39 => if (0 : Int) ≤ x4 ∧ x4 < 8 then if (0 : Int) ≤ (zar 0 x4 1) ∧ (zar 0 x4 1) < 8 then (zcall w d 18 [zA 2 2 (zR w (zR w a0 2) x4), zA 2 2 (zR w (zR w a0 2) (zar 0 x4 1))] r39.2).bind fun r40 => some (0, r40.2) else none else none else none else none :=
  (zcall_eq rfl).trans (zunr_eq w zc_X8_ofChange [] (d + 1) 103 rfl 173 _ _ _ _).symm
set_option maxRecDepth 100000 in
theorem eX8_becomeAmounts (w : zW) (d : Nat) (a1 a2 : Int) (σ : zMem) : zcall w (d + 1) 104 [zA 2 2 a1, zA 2 2 a2] σ =
  (zcall w d 13 [zA 2 2 a1] σ).bind fun r1 => if r1.1 = 0 then (zcall w d 14 [zA 2 2 a2] r1.2).bind fun r2 => if r2.1 = 0 then (zcall w d 23 [zA 2 2 a1] r2.2).bind fun r3 => (zcall w d 23 [zA 2 2 a2] r3.2).bind fun r4 => (zcall w d 15 [zA 2 2 a1, zA 2 2 a2] r4.2).bind fun r5 => if r5.1 = 0 then (zcall w d 16 [zA 2 2 a1, zJ 0] r5.2).bind fun r6 => some (0, r6.2) else (zcall w d 21 [zA 2 2 a1, zA 2 2 a2] r5.2).bind fun r7 => (zcall w d 16 [zA 2 2 a1, zJ 0] r7.2).bind fun r8 => some (0, r8.2) else (zcall w d 23 [zA 2 2 a1] r2.2).bind fun r9 => (zcall w d 23 [zA 2 2 a2] r9.2).bind fun r10 => (zcall w d 15 [zA 2 2 a1, zA 2 2 a2] r10.2).bind fun r11 => if r11.1 = 0 then some (0, r11.2) else (zcall w d 21 [zA 2 2 a1, zA 2 2 a2] r11.2).bind fun r12 => some (0, r12.2) else (zcall w d 23 [zA 2 2 a1] r1.2).bind fun r13 => (zcall w d 23 [zA 2 2 a2] r13.2).bind fun r14 => (zcall w d 15 [zA 2 2 a1, zA 2 2 a2] r14.2).bind fun r15 => if r15.1 = 0 then some (0, r15.2) else (zcall w d 21 [zA 2 2 a1, zA 2 2 a2] r15.2).bind fun r16 => some (0, r16.2) :=
  (zcall_eq rfl).trans (zunr_eq w zc_X8_becomeAmounts [] (d + 1) 104 rfl 77 _ _ _ _).symm
set_option maxRecDepth 100000 in
theorem eX8_move (w : zW) (d : Nat) (a0 a1 x2 x3 : Int) (σ : zMem) : zcall w (d + 1) 105 [zA 9 3 a0, zA 10 8 a1, zI x2, zI x3] σ =
  (zcall w d 112 [zA 10 8 a1, zI x2] σ).bind fun r1 => zden w (d + 1) 105 10 [zA 9 3 a0, zA 10 8 a1, zI x2, zI x3, zI (zar 0 x3 6), zI r1.1, zI 0, zU] [] r1.2 :=
  (zcall_eq rfl).trans (zunr_eq w zc_X8_move [10] (d + 1) 105 rfl 173 _ _ _ _).symm
set_option maxRecDepth 100000 in
theorem hX8_move_10 (w : zW) (d : Nat) (a0 a1 x2 x3 x4 x5 x6 : Int) (v7 : zV) (σ : zMem) : zden w (d + 1) 105 10 [zA 9 3 a0, zA 10 8 a1, zI x2, zI x3, zI x4, zI x5, zI x6, v7] [] σ =
  if x6 < 3 then if x5 = 12 then (zcall w d 118 [zA 10 8 a1, zI x2, zI x6] σ).bind fun r1 => if (0 : Int) ≤ (zar 0 x3 x6) ∧ (zar 0 x3 x6) < 48 then if (0 : Int) ≤ (zar 0 x4 x6) ∧ (zar 0 x4 x6) < 48 then if (0 : Int) ≤ (zar 0 (zar 0 x3 3) x6) ∧ (zar 0 (zar 0 x3 3) x6) < 48 then if (0 : Int) ≤ (zar 0 (zar 0 x4 3) x6) ∧ (zar 0 (zar 0 x4 3) x6) < 48 then zden w (d + 1) 105 10 [zA 9 3 a0, zA 10 8 a1, zI x2, zI x3, zI x4, zI x5, zI (zar 0 x6 1), zI r1.1] [] (zup (zup r1.2 (zR w a0 0) (zar 0 x4 x6) (zar 1 (r1.2 (zR w a0 0) (zar 0 x3 x6)) r1.1)) (zR w a0 0) (zar 0 (zar 0 x4 3) x6) (zar 1 ((zup r1.2 (zR w a0 0) (zar 0 x4 x6) (zar 1 (r1.2 (zR w a0 0) (zar 0 x3 x6)) r1.1)) (zR w a0 0) (zar 0 (zar 0 x3 3) x6)) r1.1)) else none else none else none else none else if (0 : Int) ≤ (zar 0 x3 x6) ∧ (zar 0 x3 x6) < 48 then if (0 : Int) ≤ (zar 0 x4 x6) ∧ (zar 0 x4 x6) < 48 then if (0 : Int) ≤ (zar 0 (zar 0 x3 3) x6) ∧ (zar 0 (zar 0 x3 3) x6) < 48 then if (0 : Int) ≤ (zar 0 (zar 0 x4 3) x6) ∧ (zar 0 (zar 0 x4 3) x6) < 48 then zden w (d + 1) 105 10 [zA 9 3 a0, zA 10 8 a1, zI x2, zI x3, zI x4, zI x5, zI (zar 0 x6 1), zI 0] [] (zup (zup σ (zR w a0 0) (zar 0 x4 x6) (zar 1 (σ (zR w a0 0) (zar 0 x3 x6)) 0)) (zR w a0 0) (zar 0 (zar 0 x4 3) x6) (zar 1 ((zup σ (zR w a0 0) (zar 0 x4 x6) (zar 1 (σ (zR w a0 0) (zar 0 x3 x6)) 0)) (zR w a0 0) (zar 0 (zar 0 x3 3) x6)) 0)) else none else none else none else none else (zcall w d 118 [zA 10 8 a1, zI x2, zI 0] σ).bind fun r2 => (zcall w d 118 [zA 10 8 a1, zI x2, zI 1] r2.2).bind fun r3 => if x5 = 13 then (zcall w d 203 [zI r2.1] r3.2).bind fun r4 => if r4.1 = 0 then if x5 = 14 then (zcall w d 203 [zI r2.1] r4.2).bind fun r5 => if r5.1 = 0 then if x5 = 15 then (zcall w d 203 [zI r2.1] r5.2).bind fun r6 => if r6.1 = 0 then some (0, r6.2) else (zcall w d 203 [zI r3.1] r6.2).bind fun r7 => if r7.1 = 0 then some (0, r7.2) else (zcall w d 108 [zA 9 3 a0, zI (zar 0 x4 r2.1), zI (zar 0 x4 r3.1)] r7.2).bind fun r8 => (zcall w d 108 [zA 9 3 a0, zI (zar 0 (zar 0 x4 3) r2.1), zI (zar 0 (zar 0 x4 3) r3.1)] r8.2).bind fun r9 => some (0, r9.2) else some (0, r5.2) else (zcall w d 107 [zA 9 3 a0, zI (zar 0 x4 r2.1), zI r3.1] r5.2).bind fun r10 => some (0, r10.2) else if x5 = 15 then (zcall w d 203 [zI r2.1] r4.2).bind fun r11 => if r11.1 = 0 then some (0, r11.2) else (zcall w d 203 [zI r3.1] r11.2).bind fun r12 => if r12.1 = 0 then some (0, r12.2) else (zcall w d 108 [zA 9 3 a0, zI (zar 0 x4 r2.1), zI (zar 0 x4 r3.1)] r12.2).bind fun r13 => (zcall w d 108 [zA 9 3 a0, zI (zar 0 (zar 0 x4 3) r2.1), zI (zar 0 (zar 0 x4 3) r3.1)] r13.2).bind fun r14 => some (0, r14.2) else some (0, r4.2) else (zcall w d 106 [zA 9 3 a0, zI (zar 0 x4 r2.1), zI r3.1] r4.2).bind fun r15 => some (0, r15.2) else if x5 = 14 then (zcall w d 203 [zI r2.1] r3.2).bind fun r16 => if r16.1 = 0 then if x5 = 15 then (zcall w d 203 [zI r2.1] r16.2).bind fun r17 => if r17.1 = 0 then some (0, r17.2) else (zcall w d 203 [zI r3.1] r17.2).bind fun r18 => if r18.1 = 0 then some (0, r18.2) else (zcall w d 108 [zA 9 3 a0, zI (zar 0 x4 r2.1), zI (zar 0 x4 r3.1)] r18.2).bind fun r19 => (zcall w d 108 [zA 9 3 a0, zI (zar 0 (zar 0 x4 3) r2.1), zI (zar 0 (zar 0 x4 3) r3.1)] r19.2).bind fun r20 => some (0, r20.2) else some (0, r16.2) else (zcall w d 107 [zA 9 3 a0, zI (zar 0 x4 r2.1), zI r3.1] r16.2).bind fun r21 => some (0, r21.2) else if x5 = 15 then (zcall w d 203 [zI r2.1] r3.2).bind fun r22 => if r22.1 = 0 then some (0, r22.2) else (zcall w d 203 [zI r3.1] r22.2).bind fun r23 => if r23.1 = 0 then some (0, r23.2) else (zcall w d 108 [zA 9 3 a0, zI (zar 0 x4 r2.1), zI (zar 0 x4 r3.1)] r23.2).bind fun r24 => (zcall w d 108 [zA 9 3 a0, zI (zar 0 (zar 0 x4 3) r2.1), zI (zar 0 (zar 0 x4 3) r3.1)] r24.2).bind fun r25 => some (0, r25.2) else some (0, r3.2) :=
  (zunr_eq w zc_X8_move [10] (d + 1) 105 rfl 173 _ _ _ _).symm
set_option maxRecDepth 100000 in
theorem eX8_repeat (w : zW) (d : Nat) (a0 x1 x2 : Int) (σ : zMem) : zcall w (d + 1) 106 [zA 9 3 a0, zI x1, zI x2] σ =
  if x2 < 1 then some (0, σ) else if (0 : Int) ≤ x1 ∧ x1 < 48 then (zcall w d 339 [zI (σ (zR w a0 0) x1), zI x2] σ).bind fun r1 => if (0 : Int) ≤ (zar 0 x1 3) ∧ (zar 0 x1 3) < 48 then (zcall w d 339 [zI (r1.2 (zR w a0 0) (zar 0 x1 3)), zI x2] r1.2).bind fun r2 => if r2.1 < r1.1 then if (0 : Int) ≤ x1 ∧ x1 < 48 then if (0 : Int) ≤ (zar 0 x1 3) ∧ (zar 0 x1 3) < 48 then some (0, zup (zup r2.2 (zR w a0 0) x1 0) (zR w a0 0) (zar 0 x1 3) (zar 1 x2 1)) else none else none else if (0 : Int) ≤ (zar 0 x1 3) ∧ (zar 0 x1 3) < 48 then if (0 : Int) ≤ x1 ∧ x1 < 48 then if (zar 1 (r2.2 (zR w a0 0) (zar 0 x1 3)) (r2.2 (zR w a0 0) x1)) < x2 then if (0 : Int) ≤ x1 ∧ x1 < 48 then if (0 : Int) ≤ (zar 0 x1 3) ∧ (zar 0 x1 3) < 48 then some (0, zup (zup r2.2 (zR w a0 0) x1 r1.1) (zR w a0 0) (zar 0 x1 3) r2.1) else none else none else if (0 : Int) ≤ x1 ∧ x1 < 48 then if (0 : Int) ≤ (zar 0 x1 3) ∧ (zar 0 x1 3) < 48 then some (0, zup (zup r2.2 (zR w a0 0) x1 0) (zR w a0 0) (zar 0 x1 3) (zar 1 x2 1)) else none else none else none else none else none else none :=
  (zcall_eq rfl).trans (zunr_eq w zc_X8_repeat [] (d + 1) 106 rfl 113 _ _ _ _).symm
set_option maxRecDepth 100000 in
theorem eX8_mirror (w : zW) (d : Nat) (a0 x1 x2 : Int) (σ : zMem) : zcall w (d + 1) 107 [zA 9 3 a0, zI x1, zI x2] σ =
  if (0 : Int) ≤ x1 ∧ x1 < 48 then if (0 : Int) ≤ (zar 0 x1 3) ∧ (zar 0 x1 3) < 48 then if x2 < (σ (zR w a0 0) (zar 0 x1 3)) then if x2 < (σ (zR w a0 0) x1) then if (0 : Int) ≤ x1 ∧ x1 < 48 then if x2 < (σ (zR w a0 0) x1) then if (0 : Int) ≤ (zar 0 x1 3) ∧ (zar 0 x1 3) < 48 then some (0, zup (zup σ (zR w a0 0) x1 (zar 1 (zar 2 2 x2) (σ (zR w a0 0) (zar 0 x1 3)))) (zR w a0 0) (zar 0 x1 3) (zar 1 (zar 2 2 x2) (σ (zR w a0 0) x1))) else none else if (0 : Int) ≤ (zar 0 x1 3) ∧ (zar 0 x1 3) < 48 then some (0, zup (zup σ (zR w a0 0) x1 (zar 1 (zar 2 2 x2) (σ (zR w a0 0) (zar 0 x1 3)))) (zR w a0 0) (zar 0 x1 3) x2) else none else none else (zcall w d 343 [zI (σ (zR w a0 0) x1), zI (zar 1 (zar 2 2 x2) (σ (zR w a0 0) (zar 0 x1 3)))] σ).bind fun r1 => if (0 : Int) ≤ x1 ∧ x1 < 48 then if x2 < (σ (zR w a0 0) x1) then if (0 : Int) ≤ (zar 0 x1 3) ∧ (zar 0 x1 3) < 48 then some (0, zup (zup r1.2 (zR w a0 0) x1 r1.1) (zR w a0 0) (zar 0 x1 3) (zar 1 (zar 2 2 x2) (σ (zR w a0 0) x1))) else none else if (0 : Int) ≤ (zar 0 x1 3) ∧ (zar 0 x1 3) < 48 then some (0, zup (zup r1.2 (zR w a0 0) x1 r1.1) (zR w a0 0) (zar 0 x1 3) x2) else none else none else some (0, σ) else none else none :=
  (zcall_eq rfl).trans (zunr_eq w zc_X8_mirror [] (d + 1) 107 rfl 103 _ _ _ _).symm
set_option maxRecDepth 100000 in
theorem eX8_turn (w : zW) (d : Nat) (a0 x1 x2 : Int) (σ : zMem) : zcall w d 108 [zA 9 3 a0, zI x1, zI x2] σ =
  if (0 : Int) ≤ x1 ∧ x1 < 48 then if (0 : Int) ≤ x2 ∧ x2 < 48 then if (0 : Int) ≤ x1 ∧ x1 < 48 then if (0 : Int) ≤ x2 ∧ x2 < 48 then some (0, zup (zup σ (zR w a0 0) x1 (σ (zR w a0 0) x2)) (zR w a0 0) x2 (σ (zR w a0 0) x1)) else none else none else none else none :=
  (zcall_eq rfl).trans (zunr_eq w zc_X8_turn [] d 108 rfl 69 _ _ _ _).symm
set_option maxRecDepth 100000 in
theorem eX9_size (w : zW) (d : Nat) (a0 : Int) (σ : zMem) : zcall w d 110 [zA 10 8 a0] σ =
  some (σ a0 7, σ) :=
  (zcall_eq rfl).trans (zunr_eq w zc_X9_size [] d 110 rfl 53 _ _ _ _).symm
set_option maxRecDepth 100000 in
theorem eX9_resize (w : zW) (d : Nat) (a0 x1 : Int) (σ : zMem) : zcall w d 111 [zA 10 8 a0, zI x1] σ =
  some (0, zup σ a0 7 x1) :=
  (zcall_eq rfl).trans (zunr_eq w zc_X9_resize [] d 111 rfl 54 _ _ _ _).symm
set_option maxRecDepth 100000 in
theorem eX9_kindOf (w : zW) (d : Nat) (a0 x1 : Int) (σ : zMem) : zcall w d 112 [zA 10 8 a0, zI x1] σ =
  if x1 < 0 then some (-1, σ) else if x1 < 88 then if (0 : Int) ≤ x1 ∧ x1 < 88 then some (σ (zR w a0 0) x1, σ) else none else some (-1, σ) :=
  (zcall_eq rfl).trans (zunr_eq w zc_X9_kindOf [] d 112 rfl 62 _ _ _ _).symm
set_option maxRecDepth 100000 in
theorem eX9_firstOf (w : zW) (d : Nat) (a0 x1 : Int) (σ : zMem) : zcall w d 113 [zA 10 8 a0, zI x1] σ =
  if x1 < 0 then some (-1, σ) else if x1 < 88 then if (0 : Int) ≤ x1 ∧ x1 < 88 then some (σ (zR w a0 1) x1, σ) else none else some (-1, σ) :=
  (zcall_eq rfl).trans (zunr_eq w zc_X9_firstOf [] d 113 rfl 62 _ _ _ _).symm
set_option maxRecDepth 100000 in
theorem eX9_secondOf (w : zW) (d : Nat) (a0 x1 : Int) (σ : zMem) : zcall w d 114 [zA 10 8 a0, zI x1] σ =
  if x1 < 0 then some (-1, σ) else if x1 < 88 then if (0 : Int) ≤ x1 ∧ x1 < 88 then some (σ (zR w a0 2) x1, σ) else none else some (-1, σ) :=
  (zcall_eq rfl).trans (zunr_eq w zc_X9_secondOf [] d 114 rfl 62 _ _ _ _).symm
set_option maxRecDepth 100000 in
theorem eX9_deepOf (w : zW) (d : Nat) (a0 x1 : Int) (σ : zMem) : zcall w d 115 [zA 10 8 a0, zI x1] σ =
  if x1 < 0 then some (0, σ) else if x1 < 88 then if (0 : Int) ≤ x1 ∧ x1 < 88 then some (σ (zR w a0 3) x1, σ) else none else some (0, σ) :=
  (zcall_eq rfl).trans (zunr_eq w zc_X9_deepOf [] d 115 rfl 62 _ _ _ _).symm
set_option maxRecDepth 100000 in
theorem eX9_solidsOf (w : zW) (d : Nat) (a0 x1 : Int) (σ : zMem) : zcall w d 116 [zA 10 8 a0, zI x1] σ =
  if x1 < 0 then some (0, σ) else if x1 < 88 then if (0 : Int) ≤ x1 ∧ x1 < 88 then some (σ (zR w a0 5) x1, σ) else none else some (0, σ) :=
  (zcall_eq rfl).trans (zunr_eq w zc_X9_solidsOf [] d 116 rfl 62 _ _ _ _).symm
set_option maxRecDepth 100000 in
theorem eX9_blendsOf (w : zW) (d : Nat) (a0 x1 : Int) (σ : zMem) : zcall w d 117 [zA 10 8 a0, zI x1] σ =
  if x1 < 0 then some (0, σ) else if x1 < 88 then if (0 : Int) ≤ x1 ∧ x1 < 88 then some (σ (zR w a0 4) x1, σ) else none else some (0, σ) :=
  (zcall_eq rfl).trans (zunr_eq w zc_X9_blendsOf [] d 117 rfl 62 _ _ _ _).symm
set_option maxRecDepth 100000 in
theorem eX9_numberOf (w : zW) (d : Nat) (a0 x1 x2 : Int) (σ : zMem) : zcall w d 118 [zA 10 8 a0, zI x1, zI x2] σ =
  if x1 < 0 then some (0, σ) else if x1 < 88 then if x2 < 0 then some (0, σ) else if x2 < 6 then if (0 : Int) ≤ (zar 0 (zar 2 x1 6) x2) ∧ (zar 0 (zar 2 x1 6) x2) < 528 then some (σ (zR w a0 6) (zar 0 (zar 2 x1 6) x2), σ) else none else some (0, σ) else some (0, σ) :=
  (zcall_eq rfl).trans (zunr_eq w zc_X9_numberOf [] d 118 rfl 71 _ _ _ _).symm
set_option maxRecDepth 100000 in
theorem eX9_isTooDeep (w : zW) (d : Nat) (a0 x1 x2 x3 : Int) (σ : zMem) : zcall w (d + 1) 119 [zA 10 8 a0, zI x1, zI x2, zI x3] σ =
  (zcall w d 120 [zA 10 8 a0, zI x1, zI x2, zI x3] σ).bind fun r1 => if 6 < r1.1 then some (1, r1.2) else (zcall w d 121 [zA 10 8 a0, zI x1, zI x2, zI x3] r1.2).bind fun r2 => if 2 < r2.1 then some (1, r2.2) else some (0, r2.2) :=
  (zcall_eq rfl).trans (zunr_eq w zc_X9_isTooDeep [] (d + 1) 119 rfl 68 _ _ _ _).symm
set_option maxRecDepth 100000 in
theorem eX9_deepOver (w : zW) (d : Nat) (a0 x1 x2 x3 : Int) (σ : zMem) : zcall w (d + 1) 120 [zA 10 8 a0, zI x1, zI x2, zI x3] σ =
  (zcall w d 27 [zI x1] σ).bind fun r1 => if r1.1 = 0 then (zcall w d 115 [zA 10 8 a0, zI x2] r1.2).bind fun r2 => (zcall w d 115 [zA 10 8 a0, zI x3] r2.2).bind fun r3 => (zcall w d 341 [zI r2.1, zI r3.1] r3.2).bind fun r4 => some (zar 0 1 r4.1, r4.2) else some (0, r1.2) :=
  (zcall_eq rfl).trans (zunr_eq w zc_X9_deepOver [] (d + 1) 120 rfl 65 _ _ _ _).symm
set_option maxRecDepth 100000 in
theorem eX9_blendsOver (w : zW) (d : Nat) (a0 x1 x2 x3 : Int) (σ : zMem) : zcall w (d + 1) 121 [zA 10 8 a0, zI x1, zI x2, zI x3] σ =
  if x1 = 11 then (zcall w d 117 [zA 10 8 a0, zI x2] σ).bind fun r1 => (zcall w d 117 [zA 10 8 a0, zI x3] r1.2).bind fun r2 => (zcall w d 341 [zI r1.1, zI r2.1] r2.2).bind fun r3 => some (zar 0 1 r3.1, r3.2) else (zcall w d 117 [zA 10 8 a0, zI x2] σ).bind fun r4 => (zcall w d 117 [zA 10 8 a0, zI x3] r4.2).bind fun r5 => (zcall w d 341 [zI r4.1, zI r5.1] r5.2).bind fun r6 => some (zar 0 0 r6.1, r6.2) :=
  (zcall_eq rfl).trans (zunr_eq w zc_X9_blendsOver [] (d + 1) 121 rfl 65 _ _ _ _).symm
set_option maxRecDepth 100000 in
theorem eX9_write (w : zW) (d : Nat) (a0 x1 x2 x3 x4 n5 a5 : Int) (σ : zMem) : zcall w (d + 1) 122 [zA 10 8 a0, zI x1, zI x2, zI x3, zI x4, zA 20 n5 a5] σ =
  if x1 < 0 then some (0, σ) else if x1 < 88 then if (0 : Int) ≤ x1 ∧ x1 < 88 then if (0 : Int) ≤ x1 ∧ x1 < 88 then if (0 : Int) ≤ x1 ∧ x1 < 88 then (zcall w d 120 [zA 10 8 a0, zI x2, zI x3, zI x4] (zup (zup (zup σ (zR w a0 0) x1 x2) (zR w a0 1) x1 x3) (zR w a0 2) x1 x4)).bind fun r1 => if (0 : Int) ≤ x1 ∧ x1 < 88 then (zcall w d 121 [zA 10 8 a0, zI x2, zI x3, zI x4] (zup r1.2 (zR w a0 3) x1 r1.1)).bind fun r2 => if (0 : Int) ≤ x1 ∧ x1 < 88 then (zcall w d 27 [zI x2] (zup r2.2 (zR w a0 4) x1 r2.1)).bind fun r3 => if r3.1 = 0 then (zcall w d 116 [zA 10 8 a0, zI x3] r3.2).bind fun r4 => (zcall w d 116 [zA 10 8 a0, zI x4] r4.2).bind fun r5 => if (0 : Int) ≤ x1 ∧ x1 < 88 then zden w (d + 1) 122 57 [zA 10 8 a0, zI x1, zI x2, zI x3, zI x4, zA 20 n5 a5, zI 0] [] (zup r5.2 (zR w a0 5) x1 (zar 0 r4.1 r5.1)) else none else if (0 : Int) ≤ x1 ∧ x1 < 88 then zden w (d + 1) 122 57 [zA 10 8 a0, zI x1, zI x2, zI x3, zI x4, zA 20 n5 a5, zI 0] [] (zup r3.2 (zR w a0 5) x1 1) else none else none else none else none else none else none else some (0, σ) :=
  (zcall_eq rfl).trans (zunr_eq w zc_X9_write [57] (d + 1) 122 rfl 128 _ _ _ _).symm
set_option maxRecDepth 100000 in
theorem hX9_write_57 (w : zW) (d : Nat) (a0 x1 n5 a5 x6 : Int) (v2 v3 v4 : zV) (σ : zMem) : zden w (d + 1) 122 57 [zA 10 8 a0, zI x1, v2, v3, v4, zA 20 n5 a5, zI x6] [] σ =
  if x6 < 6 then if x6 < n5 then if (0 : Int) ≤ x6 ∧ x6 < n5 then if (0 : Int) ≤ (zar 0 (zar 2 x1 6) x6) ∧ (zar 0 (zar 2 x1 6) x6) < 528 then zden w (d + 1) 122 57 [zA 10 8 a0, zI x1, v2, v3, v4, zA 20 n5 a5, zI (zar 0 x6 1)] [] (zup σ (zR w a0 6) (zar 0 (zar 2 x1 6) x6) (σ a5 x6)) else none else none else some (0, σ) else some (0, σ) :=
  (zunr_eq w zc_X9_write [57] (d + 1) 122 rfl 128 _ _ _ _).symm
set_option maxRecDepth 100000 in
theorem eX9_takeFrom (w : zW) (d : Nat) (a0 a1 : Int) (σ : zMem) : zcall w d 123 [zA 10 8 a0, zA 10 8 a1] σ =
  some (0, zup (zfc (zfc (zfc (zfc (zfc (zfc (zfc σ (zR w a1 0) 0 (zR w a0 0) 0 88) (zR w a1 1) 0 (zR w a0 1) 0 88) (zR w a1 2) 0 (zR w a0 2) 0 88) (zR w a1 3) 0 (zR w a0 3) 0 88) (zR w a1 4) 0 (zR w a0 4) 0 88) (zR w a1 5) 0 (zR w a0 5) 0 88) (zR w a1 6) 0 (zR w a0 6) 0 528) a0 7 ((zfc (zfc (zfc (zfc (zfc (zfc (zfc σ (zR w a1 0) 0 (zR w a0 0) 0 88) (zR w a1 1) 0 (zR w a0 1) 0 88) (zR w a1 2) 0 (zR w a0 2) 0 88) (zR w a1 3) 0 (zR w a0 3) 0 88) (zR w a1 4) 0 (zR w a0 4) 0 88) (zR w a1 5) 0 (zR w a0 5) 0 88) (zR w a1 6) 0 (zR w a0 6) 0 528) a1 7)) :=
  (zcall_eq rfl).trans (zunr_eq w zc_X9_takeFrom [] d 123 rfl 111 _ _ _ _).symm
set_option maxRecDepth 100000 in
theorem eX10_stepsTillIn (w : zW) (d : Nat) (σ : zMem) : zcall w d 125 [zA 11 8 169] σ =
  some (σ 169 2, σ) :=
  (zcall_eq rfl).trans (zunr_eq w zc_X10_stepsTillIn [] d 125 rfl 53 _ _ _ _).symm
set_option maxRecDepth 100000 in
theorem eX10_placesIn (w : zW) (d : Nat) (σ : zMem) : zcall w d 126 [zA 11 8 169] σ =
  some (σ 169 3, σ) :=
  (zcall_eq rfl).trans (zunr_eq w zc_X10_placesIn [] d 126 rfl 53 _ _ _ _).symm
set_option maxRecDepth 100000 in
theorem eX10_timesOver (w : zW) (d : Nat) (σ : zMem) : zcall w d 127 [zA 11 8 169] σ =
  some (σ 169 4, σ) :=
  (zcall_eq rfl).trans (zunr_eq w zc_X10_timesOver [] d 127 rfl 53 _ _ _ _).symm
set_option maxRecDepth 100000 in
theorem eX10_parts (w : zW) (d : Nat) (σ : zMem) : zcall w d 128 [zA 11 8 169] σ =
  some (σ 169 5, σ) :=
  (zcall_eq rfl).trans (zunr_eq w zc_X10_parts [] d 128 rfl 53 _ _ _ _).symm
set_option maxRecDepth 100000 in
theorem eX10_greatest (w : zW) (d : Nat) (σ : zMem) : zcall w d 129 [zA 11 8 169] σ =
  some (σ 169 6, σ) :=
  (zcall_eq rfl).trans (zunr_eq w zc_X10_greatest [] d 129 rfl 53 _ _ _ _).symm
set_option maxRecDepth 100000 in
theorem eX10_leastOfGreatest (w : zW) (d : Nat) (σ : zMem) : zcall w d 130 [zA 11 8 169] σ =
  some (σ 169 7, σ) :=
  (zcall_eq rfl).trans (zunr_eq w zc_X10_leastOfGreatest [] d 130 rfl 53 _ _ _ _).symm
set_option maxRecDepth 100000 in
theorem eX10_walk (w : zW) (d : Nat) (a1 x2 x3 x4 x5 : Int) (σ : zMem) : zcall w (d + 1) 131 [zA 11 8 169, zA 6 1 a1, zI x2, zI x3, zI x4, zI x5] σ =
  (zcall w d 49 [zA 6 1 a1, zI x2] (zup (zup (zup σ 169 2 (-1)) 169 3 0) 169 4 0)).bind fun r1 => zden w (d + 1) 131 17 [zA 11 8 169, zA 6 1 a1, zI x2, zI x3, zI x4, zI x5, zI x2, zI r1.1, zI 0, zU] [] r1.2 :=
  (zcall_eq rfl).trans (zunr_eq w zc_X10_walk [17] (d + 1) 131 rfl 123 _ _ _ _).symm
set_option maxRecDepth 100000 in
theorem hX10_walk_17 (w : zW) (d : Nat) (a1 x3 x4 x5 x6 x7 x8 : Int) (v2 v9 : zV) (σ : zMem) : zden w (d + 1) 131 17 [zA 11 8 169, zA 6 1 a1, v2, zI x3, zI x4, zI x5, zI x6, zI x7, zI x8, v9] [] σ =
  if x8 < 16 then if x6 = (-1) then some (0, σ) else (zcall w d 49 [zA 6 1 a1, zI x6] σ).bind fun r1 => if r1.1 = 0 then if r1.1 = 0 then if r1.1 = x7 then (zcall w d 211 [zI x6, zI 0, zI x3] (zup (zup r1.2 169 3 (zar 0 (r1.2 169 3) 0)) 169 4 (zar 0 ((zup r1.2 169 3 (zar 0 (r1.2 169 3) 0)) 169 4) 0))).bind fun r2 => (zcall w d 211 [zI r2.1, zI 1, zI x4] r2.2).bind fun r3 => (zcall w d 211 [zI r3.1, zI 2, zI x5] r3.2).bind fun r4 => zden w (d + 1) 131 17 [zA 11 8 169, zA 6 1 a1, v2, zI x3, zI x4, zI x5, zI r4.1, zI r1.1, zI (zar 0 x8 1), zI r1.1] [] r4.2 else (zcall w d 211 [zI x6, zI 0, zI x3] (zup (zup r1.2 169 3 (zar 0 (r1.2 169 3) 0)) 169 4 (zar 0 ((zup r1.2 169 3 (zar 0 (r1.2 169 3) 0)) 169 4) 1))).bind fun r5 => (zcall w d 211 [zI r5.1, zI 1, zI x4] r5.2).bind fun r6 => (zcall w d 211 [zI r6.1, zI 2, zI x5] r6.2).bind fun r7 => zden w (d + 1) 131 17 [zA 11 8 169, zA 6 1 a1, v2, zI x3, zI x4, zI x5, zI r7.1, zI r1.1, zI (zar 0 x8 1), zI r1.1] [] r7.2 else if r1.1 = x7 then (zcall w d 211 [zI x6, zI 0, zI x3] (zup (zup r1.2 169 3 (zar 0 (r1.2 169 3) 1)) 169 4 (zar 0 ((zup r1.2 169 3 (zar 0 (r1.2 169 3) 1)) 169 4) 0))).bind fun r8 => (zcall w d 211 [zI r8.1, zI 1, zI x4] r8.2).bind fun r9 => (zcall w d 211 [zI r9.1, zI 2, zI x5] r9.2).bind fun r10 => zden w (d + 1) 131 17 [zA 11 8 169, zA 6 1 a1, v2, zI x3, zI x4, zI x5, zI r10.1, zI r1.1, zI (zar 0 x8 1), zI r1.1] [] r10.2 else (zcall w d 211 [zI x6, zI 0, zI x3] (zup (zup r1.2 169 3 (zar 0 (r1.2 169 3) 1)) 169 4 (zar 0 ((zup r1.2 169 3 (zar 0 (r1.2 169 3) 1)) 169 4) 1))).bind fun r11 => (zcall w d 211 [zI r11.1, zI 1, zI x4] r11.2).bind fun r12 => (zcall w d 211 [zI r12.1, zI 2, zI x5] r12.2).bind fun r13 => zden w (d + 1) 131 17 [zA 11 8 169, zA 6 1 a1, v2, zI x3, zI x4, zI x5, zI r13.1, zI r1.1, zI (zar 0 x8 1), zI r1.1] [] r13.2 else if (r1.2 169 2) = (-1) then if r1.1 = 0 then if r1.1 = x7 then (zcall w d 211 [zI x6, zI 0, zI x3] (zup (zup (zup r1.2 169 2 x8) 169 3 (zar 0 ((zup r1.2 169 2 x8) 169 3) 0)) 169 4 (zar 0 ((zup (zup r1.2 169 2 x8) 169 3 (zar 0 ((zup r1.2 169 2 x8) 169 3) 0)) 169 4) 0))).bind fun r14 => (zcall w d 211 [zI r14.1, zI 1, zI x4] r14.2).bind fun r15 => (zcall w d 211 [zI r15.1, zI 2, zI x5] r15.2).bind fun r16 => zden w (d + 1) 131 17 [zA 11 8 169, zA 6 1 a1, v2, zI x3, zI x4, zI x5, zI r16.1, zI r1.1, zI (zar 0 x8 1), zI r1.1] [] r16.2 else (zcall w d 211 [zI x6, zI 0, zI x3] (zup (zup (zup r1.2 169 2 x8) 169 3 (zar 0 ((zup r1.2 169 2 x8) 169 3) 0)) 169 4 (zar 0 ((zup (zup r1.2 169 2 x8) 169 3 (zar 0 ((zup r1.2 169 2 x8) 169 3) 0)) 169 4) 1))).bind fun r17 => (zcall w d 211 [zI r17.1, zI 1, zI x4] r17.2).bind fun r18 => (zcall w d 211 [zI r18.1, zI 2, zI x5] r18.2).bind fun r19 => zden w (d + 1) 131 17 [zA 11 8 169, zA 6 1 a1, v2, zI x3, zI x4, zI x5, zI r19.1, zI r1.1, zI (zar 0 x8 1), zI r1.1] [] r19.2 else if r1.1 = x7 then (zcall w d 211 [zI x6, zI 0, zI x3] (zup (zup (zup r1.2 169 2 x8) 169 3 (zar 0 ((zup r1.2 169 2 x8) 169 3) 1)) 169 4 (zar 0 ((zup (zup r1.2 169 2 x8) 169 3 (zar 0 ((zup r1.2 169 2 x8) 169 3) 1)) 169 4) 0))).bind fun r20 => (zcall w d 211 [zI r20.1, zI 1, zI x4] r20.2).bind fun r21 => (zcall w d 211 [zI r21.1, zI 2, zI x5] r21.2).bind fun r22 => zden w (d + 1) 131 17 [zA 11 8 169, zA 6 1 a1, v2, zI x3, zI x4, zI x5, zI r22.1, zI r1.1, zI (zar 0 x8 1), zI r1.1] [] r22.2 else (zcall w d 211 [zI x6, zI 0, zI x3] (zup (zup (zup r1.2 169 2 x8) 169 3 (zar 0 ((zup r1.2 169 2 x8) 169 3) 1)) 169 4 (zar 0 ((zup (zup r1.2 169 2 x8) 169 3 (zar 0 ((zup r1.2 169 2 x8) 169 3) 1)) 169 4) 1))).bind fun r23 => (zcall w d 211 [zI r23.1, zI 1, zI x4] r23.2).bind fun r24 => (zcall w d 211 [zI r24.1, zI 2, zI x5] r24.2).bind fun r25 => zden w (d + 1) 131 17 [zA 11 8 169, zA 6 1 a1, v2, zI x3, zI x4, zI x5, zI r25.1, zI r1.1, zI (zar 0 x8 1), zI r1.1] [] r25.2 else if r1.1 = 0 then if r1.1 = x7 then (zcall w d 211 [zI x6, zI 0, zI x3] (zup (zup r1.2 169 3 (zar 0 (r1.2 169 3) 0)) 169 4 (zar 0 ((zup r1.2 169 3 (zar 0 (r1.2 169 3) 0)) 169 4) 0))).bind fun r26 => (zcall w d 211 [zI r26.1, zI 1, zI x4] r26.2).bind fun r27 => (zcall w d 211 [zI r27.1, zI 2, zI x5] r27.2).bind fun r28 => zden w (d + 1) 131 17 [zA 11 8 169, zA 6 1 a1, v2, zI x3, zI x4, zI x5, zI r28.1, zI r1.1, zI (zar 0 x8 1), zI r1.1] [] r28.2 else (zcall w d 211 [zI x6, zI 0, zI x3] (zup (zup r1.2 169 3 (zar 0 (r1.2 169 3) 0)) 169 4 (zar 0 ((zup r1.2 169 3 (zar 0 (r1.2 169 3) 0)) 169 4) 1))).bind fun r29 => (zcall w d 211 [zI r29.1, zI 1, zI x4] r29.2).bind fun r30 => (zcall w d 211 [zI r30.1, zI 2, zI x5] r30.2).bind fun r31 => zden w (d + 1) 131 17 [zA 11 8 169, zA 6 1 a1, v2, zI x3, zI x4, zI x5, zI r31.1, zI r1.1, zI (zar 0 x8 1), zI r1.1] [] r31.2 else if r1.1 = x7 then (zcall w d 211 [zI x6, zI 0, zI x3] (zup (zup r1.2 169 3 (zar 0 (r1.2 169 3) 1)) 169 4 (zar 0 ((zup r1.2 169 3 (zar 0 (r1.2 169 3) 1)) 169 4) 0))).bind fun r32 => (zcall w d 211 [zI r32.1, zI 1, zI x4] r32.2).bind fun r33 => (zcall w d 211 [zI r33.1, zI 2, zI x5] r33.2).bind fun r34 => zden w (d + 1) 131 17 [zA 11 8 169, zA 6 1 a1, v2, zI x3, zI x4, zI x5, zI r34.1, zI r1.1, zI (zar 0 x8 1), zI r1.1] [] r34.2 else (zcall w d 211 [zI x6, zI 0, zI x3] (zup (zup r1.2 169 3 (zar 0 (r1.2 169 3) 1)) 169 4 (zar 0 ((zup r1.2 169 3 (zar 0 (r1.2 169 3) 1)) 169 4) 1))).bind fun r35 => (zcall w d 211 [zI r35.1, zI 1, zI x4] r35.2).bind fun r36 => (zcall w d 211 [zI r36.1, zI 2, zI x5] r36.2).bind fun r37 => zden w (d + 1) 131 17 [zA 11 8 169, zA 6 1 a1, v2, zI x3, zI x4, zI x5, zI r37.1, zI r1.1, zI (zar 0 x8 1), zI r1.1] [] r37.2 else some (0, σ) :=
  (zunr_eq w zc_X10_walk [17] (d + 1) 131 rfl 123 _ _ _ _).symm
set_option maxRecDepth 100000 in
theorem eX10_skinOf (w : zW) (d : Nat) (a1 : Int) (σ : zMem) : zcall w (d + 1) 132 [zA 11 8 169, zA 6 1 a1] σ =
  zden w (d + 1) 132 4 [zA 11 8 169, zA 6 1 a1, zI 0, zI 0] [] σ :=
  (zcall_eq rfl).trans (zunr_eq w zc_X10_skinOf [4] (d + 1) 132 rfl 70 _ _ _ _).symm
set_option maxRecDepth 100000 in
theorem hX10_skinOf_4 (w : zW) (d : Nat) (a1 x2 x3 : Int) (v0 : zV) (σ : zMem) : zden w (d + 1) 132 4 [v0, zA 6 1 a1, zI x2, zI x3] [] σ =
  if x3 < 4096 then (zcall w d 49 [zA 6 1 a1, zI x3] σ).bind fun r1 => if r1.1 = 0 then zden w (d + 1) 132 4 [v0, zA 6 1 a1, zI x2, zI (zar 0 x3 1)] [] r1.2 else (zcall w d 133 [zA 6 1 a1, zI x3] r1.2).bind fun r2 => if r2.1 = 0 then zden w (d + 1) 132 4 [v0, zA 6 1 a1, zI x2, zI (zar 0 x3 1)] [] r2.2 else zden w (d + 1) 132 4 [v0, zA 6 1 a1, zI (zar 0 x2 1), zI (zar 0 x3 1)] [] r2.2 else some (x2, σ) :=
  (zunr_eq w zc_X10_skinOf [4] (d + 1) 132 rfl 70 _ _ _ _).symm
set_option maxRecDepth 100000 in
theorem eX10_isBare (w : zW) (d : Nat) (a1 x2 : Int) (σ : zMem) : zcall w (d + 1) 133 [zA 6 1 a1, zI x2] σ =
  zden w (d + 1) 133 2 [zA 6 1 a1, zI x2, zI 0] [] σ :=
  (zcall_eq rfl).trans (zunr_eq w zc_X10_isBare [2] (d + 1) 133 rfl 67 _ _ _ _).symm
set_option maxRecDepth 100000 in
theorem hX10_isBare_2 (w : zW) (d : Nat) (a1 x2 : Int) (σ : zMem) : zden w (d + 1) 133 2 [zA 6 1 a1, zI x2, zI x2] [] σ =
  if x2 < 6 then (zcall w d 134 [zI x2, zI x2] σ).bind fun r1 => (zcall w d 49 [zA 6 1 a1, zI r1.1] r1.2).bind fun r2 => if r2.1 = 0 then some (1, r2.2) else zden w (d + 1) 133 2 [zA 6 1 a1, zI x2, zI (zar 0 x2 1)] [] r2.2 else some (0, σ) :=
  (zunr_eq w zc_X10_isBare [2] (d + 1) 133 rfl 67 _ _ _ _).symm
set_option maxRecDepth 100000 in
theorem eX10_neighbour (w : zW) (d : Nat) (x1 x2 : Int) (σ : zMem) : zcall w (d + 1) 134 [zI x1, zI x2] σ =
  if (zar 4 x2 2) = 0 then (zcall w d 211 [zI x1, zI (zar 3 x2 2), zI (-1)] σ).bind fun r1 => some (r1.1, r1.2) else (zcall w d 211 [zI x1, zI (zar 3 x2 2), zI 1] σ).bind fun r2 => some (r2.1, r2.2) :=
  (zcall_eq rfl).trans (zunr_eq w zc_X10_neighbour [] (d + 1) 134 rfl 63 _ _ _ _).symm
set_option maxRecDepth 100000 in
theorem eX10_part (w : zW) (d : Nat) (a1 : Int) (σ : zMem) : zcall w (d + 1) 135 [zA 11 8 169, zA 6 1 a1] σ =
  (zcall w d 52 [zA 6 1 170] (zup (zup (zup σ 169 5 0) 169 6 0) 169 7 (-1))).bind fun r1 => zden w (d + 1) 135 14 [zA 11 8 169, zA 6 1 a1, zI 0, zU] [] r1.2 :=
  (zcall_eq rfl).trans (zunr_eq w zc_X10_part [14] (d + 1) 135 rfl 100 _ _ _ _).symm
set_option maxRecDepth 100000 in
theorem hX10_part_14 (w : zW) (d : Nat) (a1 x2 : Int) (v3 : zV) (σ : zMem) : zden w (d + 1) 135 14 [zA 11 8 169, zA 6 1 a1, zI x2, v3] [] σ =
  if x2 < 4096 then (zcall w d 49 [zA 6 1 a1, zI x2] σ).bind fun r1 => if r1.1 = 0 then zden w (d + 1) 135 14 [zA 11 8 169, zA 6 1 a1, zI (zar 0 x2 1), v3] [] r1.2 else (zcall w d 49 [zA 6 1 170, zI x2] r1.2).bind fun r2 => if r2.1 = 0 then (zcall w d 136 [zA 11 8 169, zA 6 1 a1, zI x2] r2.2).bind fun r3 => if ((zup r3.2 169 5 (zar 0 (r3.2 169 5) 1)) 169 6) < r3.1 then zden w (d + 1) 135 14 [zA 11 8 169, zA 6 1 a1, zI (zar 0 x2 1), zI r3.1] [] (zup (zup (zup r3.2 169 5 (zar 0 (r3.2 169 5) 1)) 169 6 r3.1) 169 7 x2) else zden w (d + 1) 135 14 [zA 11 8 169, zA 6 1 a1, zI (zar 0 x2 1), zI r3.1] [] (zup r3.2 169 5 (zar 0 (r3.2 169 5) 1)) else zden w (d + 1) 135 14 [zA 11 8 169, zA 6 1 a1, zI (zar 0 x2 1), v3] [] r2.2 else some (0, σ) :=
  (zunr_eq w zc_X10_part [14] (d + 1) 135 rfl 100 _ _ _ _).symm
set_option maxRecDepth 100000 in
theorem eX10_sizeOfPiece (w : zW) (d : Nat) (a1 x2 : Int) (σ : zMem) : zcall w (d + 1) 136 [zA 11 8 169, zA 6 1 a1, zI x2] σ =
  (zcall w d 50 [zA 6 1 170, zI x2] (zup σ 172 0 x2)).bind fun r1 => zden w (d + 1) 136 13 [zA 11 8 169, zA 6 1 a1, zI x2, zI 1, zI 0, zU, zU] [] r1.2 :=
  (zcall_eq rfl).trans (zunr_eq w zc_X10_sizeOfPiece [13, 23] (d + 1) 136 rfl 113 _ _ _ _).symm
set_option maxRecDepth 100000 in
theorem hX10_sizeOfPiece_13 (w : zW) (d : Nat) (a1 x3 x4 : Int) (v2 v5 v6 : zV) (σ : zMem) : zden w (d + 1) 136 13 [zA 11 8 169, zA 6 1 a1, v2, zI x3, zI x4, v5, v6] [] σ =
  if x4 < x3 then if x4 < 4096 then zden w (d + 1) 136 23 [zA 11 8 169, zA 6 1 a1, v2, zI x3, zI x4, zI 0, v6] [] σ else some (x3, σ) else some (x3, σ) :=
  (zunr_eq w zc_X10_sizeOfPiece [13, 23] (d + 1) 136 rfl 113 _ _ _ _).symm
set_option maxRecDepth 100000 in
theorem hX10_sizeOfPiece_23 (w : zW) (d : Nat) (a1 x3 x4 x5 : Int) (v2 v6 : zV) (σ : zMem) : zden w (d + 1) 136 23 [zA 11 8 169, zA 6 1 a1, v2, zI x3, zI x4, zI x5, v6] [] σ =
  if x5 < 6 then if (0 : Int) ≤ x4 ∧ x4 < 4096 then (zcall w d 134 [zI (σ 172 x4), zI x5] σ).bind fun r1 => (zcall w d 49 [zA 6 1 a1, zI r1.1] r1.2).bind fun r2 => if r2.1 = 0 then zden w (d + 1) 136 23 [zA 11 8 169, zA 6 1 a1, v2, zI x3, zI x4, zI (zar 0 x5 1), zI r1.1] [] r2.2 else (zcall w d 49 [zA 6 1 170, zI r1.1] r2.2).bind fun r3 => if r3.1 = 0 then if x3 < 4096 then (zcall w d 50 [zA 6 1 170, zI r1.1] r3.2).bind fun r4 => if (0 : Int) ≤ x3 ∧ x3 < 4096 then zden w (d + 1) 136 23 [zA 11 8 169, zA 6 1 a1, (zlng 0 v2), zI (zar 0 x3 1), zI x4, zI (zar 0 x5 1), zI r1.1] [] (zup r4.2 172 x3 r1.1) else none else zden w (d + 1) 136 23 [zA 11 8 169, zA 6 1 a1, v2, zI x3, zI x4, zI (zar 0 x5 1), zI r1.1] [] r3.2 else zden w (d + 1) 136 23 [zA 11 8 169, zA 6 1 a1, v2, zI x3, zI x4, zI (zar 0 x5 1), zI r1.1] [] r3.2 else none else zden w (d + 1) 136 13 [zA 11 8 169, zA 6 1 a1, v2, zI x3, zI (zar 0 x4 1), zI x5, v6] [] σ :=
  (zunr_eq w zc_X10_sizeOfPiece [13, 23] (d + 1) 136 rfl 113 _ _ _ _).symm
set_option maxRecDepth 100000 in
theorem eX11_row (w : zW) (d : Nat) (x1 x2 x3 : Int) (σ : zMem) : zcall w (d + 1) 138 [zA 12 16 1, zI x1, zI x2, zI x3] σ =
  (zcall w d 201 [zI x1] σ).bind fun r1 => if r1.1 = 0 then (zcall w d 194 [zA 12 16 1, zI (-62)] r1.2).bind fun r2 => some (r2.1, r2.2) else (zcall w d 200 [zI x2, zI 0, zI 4] r1.2).bind fun r3 => if r3.1 = 0 then (zcall w d 194 [zA 12 16 1, zI (-62)] r3.2).bind fun r4 => some (r4.1, r4.2) else (zcall w d 200 [zI x3, zI 0, zI 40] r3.2).bind fun r5 => if r5.1 = 0 then (zcall w d 194 [zA 12 16 1, zI (-62)] r5.2).bind fun r6 => some (r6.1, r6.2) else (zcall w d 84 [zA 8 3 74, zI x1, zI x2, zI x3] r5.2).bind fun r7 => some (1, r7.2) :=
  (zcall_eq rfl).trans (zunr_eq w zc_X11_row [] (d + 1) 138 rfl 75 _ _ _ _).symm
set_option maxRecDepth 100000 in
theorem eX11_set (w : zW) (d : Nat) (x1 x2 x3 : Int) (σ : zMem) : zcall w (d + 1) 139 [zA 12 16 1, zI x1, zI x2, zJ x3] σ =
  (zcall w d 195 [zA 12 16 1, zI x1] σ).bind fun r1 => if r1.1 = 0 then (zcall w d 82 [zA 8 3 74, zI x1] r1.2).bind fun r2 => (zcall w d 200 [zI x2, zI 0, zI (zar 1 r2.1 1)] r2.2).bind fun r3 => if r3.1 = 0 then (zcall w d 194 [zA 12 16 1, zI (-62)] r3.2).bind fun r4 => some (r4.1, r4.2) else (zcall w d 89 [zA 8 3 74, zI x1, zI x2, zJ x3] r3.2).bind fun r5 => some (1, r5.2) else (zcall w d 194 [zA 12 16 1, zI r1.1] r1.2).bind fun r6 => some (r6.1, r6.2) :=
  (zcall_eq rfl).trans (zunr_eq w zc_X11_set [] (d + 1) 139 rfl 82 _ _ _ _).symm
set_option maxRecDepth 100000 in
theorem eX11_copy (w : zW) (d : Nat) (x1 x2 x3 x4 x5 : Int) (σ : zMem) : zcall w (d + 1) 140 [zA 12 16 1, zI x1, zI x2, zI x3, zI x4, zI x5] σ =
  (zcall w d 201 [zI x1] σ).bind fun r1 => if r1.1 = 0 then (zcall w d 194 [zA 12 16 1, zI (-62)] r1.2).bind fun r2 => some (r2.1, r2.2) else (zcall w d 201 [zI x2] r1.2).bind fun r3 => if r3.1 = 0 then (zcall w d 194 [zA 12 16 1, zI (-62)] r3.2).bind fun r4 => some (r4.1, r4.2) else (zcall w d 81 [zA 8 3 74, zI x1] r3.2).bind fun r5 => (zcall w d 81 [zA 8 3 74, zI x2] r5.2).bind fun r6 => if r5.1 < 10 then if r6.1 < 10 then if r5.1 = (-1) then if r5.1 = (-1) then (zcall w d 194 [zA 12 16 1, zI (-64)] r6.2).bind fun r7 => some (r7.1, r7.2) else if r6.1 = (-1) then (zcall w d 194 [zA 12 16 1, zI (-64)] r6.2).bind fun r8 => some (r8.1, r8.2) else (zcall w d 82 [zA 8 3 74, zI x1] r6.2).bind fun r9 => (zcall w d 206 [zI x3, zI x5, zI r9.1] r9.2).bind fun r10 => if r10.1 = 0 then (zcall w d 194 [zA 12 16 1, zI (-62)] r10.2).bind fun r11 => some (r11.1, r11.2) else (zcall w d 82 [zA 8 3 74, zI x2] r10.2).bind fun r12 => (zcall w d 206 [zI x4, zI x5, zI r12.1] r12.2).bind fun r13 => if r13.1 = 0 then (zcall w d 194 [zA 12 16 1, zI (-62)] r13.2).bind fun r14 => some (r14.1, r14.2) else (zcall w d 91 [zA 8 3 74, zI x1, zI x2, zI x3, zI x4, zI x5] r13.2).bind fun r15 => some (x5, r15.2) else if r6.1 = (-1) then if r5.1 = (-1) then (zcall w d 194 [zA 12 16 1, zI (-64)] r6.2).bind fun r16 => some (r16.1, r16.2) else if r6.1 = (-1) then (zcall w d 194 [zA 12 16 1, zI (-64)] r6.2).bind fun r17 => some (r17.1, r17.2) else (zcall w d 82 [zA 8 3 74, zI x1] r6.2).bind fun r18 => (zcall w d 206 [zI x3, zI x5, zI r18.1] r18.2).bind fun r19 => if r19.1 = 0 then (zcall w d 194 [zA 12 16 1, zI (-62)] r19.2).bind fun r20 => some (r20.1, r20.2) else (zcall w d 82 [zA 8 3 74, zI x2] r19.2).bind fun r21 => (zcall w d 206 [zI x4, zI x5, zI r21.1] r21.2).bind fun r22 => if r22.1 = 0 then (zcall w d 194 [zA 12 16 1, zI (-62)] r22.2).bind fun r23 => some (r23.1, r23.2) else (zcall w d 91 [zA 8 3 74, zI x1, zI x2, zI x3, zI x4, zI x5] r22.2).bind fun r24 => some (x5, r24.2) else if r5.1 = r6.1 then if r5.1 = (-1) then (zcall w d 194 [zA 12 16 1, zI (-64)] r6.2).bind fun r25 => some (r25.1, r25.2) else if r6.1 = (-1) then (zcall w d 194 [zA 12 16 1, zI (-64)] r6.2).bind fun r26 => some (r26.1, r26.2) else (zcall w d 82 [zA 8 3 74, zI x1] r6.2).bind fun r27 => (zcall w d 206 [zI x3, zI x5, zI r27.1] r27.2).bind fun r28 => if r28.1 = 0 then (zcall w d 194 [zA 12 16 1, zI (-62)] r28.2).bind fun r29 => some (r29.1, r29.2) else (zcall w d 82 [zA 8 3 74, zI x2] r28.2).bind fun r30 => (zcall w d 206 [zI x4, zI x5, zI r30.1] r30.2).bind fun r31 => if r31.1 = 0 then (zcall w d 194 [zA 12 16 1, zI (-62)] r31.2).bind fun r32 => some (r32.1, r32.2) else (zcall w d 91 [zA 8 3 74, zI x1, zI x2, zI x3, zI x4, zI x5] r31.2).bind fun r33 => some (x5, r33.2) else (zcall w d 194 [zA 12 16 1, zI (-63)] r6.2).bind fun r34 => some (r34.1, r34.2) else (zcall w d 194 [zA 12 16 1, zI (-63)] r6.2).bind fun r35 => some (r35.1, r35.2) else (zcall w d 194 [zA 12 16 1, zI (-63)] r6.2).bind fun r36 => some (r36.1, r36.2) :=
  (zcall_eq rfl).trans (zunr_eq w zc_X11_copy [] (d + 1) 140 rfl 129 _ _ _ _).symm
set_option maxRecDepth 100000 in
theorem eX11_element (w : zW) (d : Nat) (x1 x2 : Int) (σ : zMem) : zcall w (d + 1) 141 [zA 12 16 1, zI x1, zI x2] σ =
  (zcall w d 88 [zA 8 3 74, zI x1, zI x2] σ).bind fun r1 => some (r1.1, r1.2) :=
  (zcall_eq rfl).trans (zunr_eq w zc_X11_element [] (d + 1) 141 rfl 56 _ _ _ _).symm
set_option maxRecDepth 100000 in
theorem eX11_holds (w : zW) (d : Nat) (x1 : Int) (σ : zMem) : zcall w (d + 1) 142 [zA 12 16 1, zI x1] σ =
  (zcall w d 81 [zA 8 3 74, zI x1] σ).bind fun r1 => some (r1.1, r1.2) :=
  (zcall_eq rfl).trans (zunr_eq w zc_X11_holds [] (d + 1) 142 rfl 55 _ _ _ _).symm
set_option maxRecDepth 100000 in
theorem eX11_show (w : zW) (d : Nat) (x1 x2 : Int) (σ : zMem) : zcall w (d + 1) 143 [zA 12 16 1, zI x1, zI x2] σ =
  (zcall w d 201 [zI x1] σ).bind fun r1 => if r1.1 = 0 then (zcall w d 194 [zA 12 16 1, zI (-62)] r1.2).bind fun r2 => some (r2.1, r2.2) else if x2 = (-1) then (zcall w d 85 [zA 8 3 74, zI x1, zI x2] r1.2).bind fun r3 => some (1, r3.2) else (zcall w d 197 [zA 12 16 1, zI x2] r1.2).bind fun r4 => if r4.1 = 0 then (zcall w d 194 [zA 12 16 1, zI (-62)] r4.2).bind fun r5 => some (r5.1, r5.2) else (zcall w d 85 [zA 8 3 74, zI x1, zI x2] r4.2).bind fun r6 => some (1, r6.2) :=
  (zcall_eq rfl).trans (zunr_eq w zc_X11_show [] (d + 1) 143 rfl 71 _ _ _ _).symm
set_option maxRecDepth 100000 in
theorem eX11_says (w : zW) (d : Nat) (x1 x2 : Int) (σ : zMem) : zcall w (d + 1) 144 [zA 12 16 1, zI x1, zI x2] σ =
  (zcall w d 145 [zA 12 16 1, zI x1, zI x2] σ).bind fun r1 => if r1.1 = 0 then (zcall w d 81 [zA 8 3 74, zI x1] r1.2).bind fun r2 => (zcall w d 113 [zA 10 8 2, zI (zar 1 r2.1 10)] r2.2).bind fun r3 => (zcall w d 114 [zA 10 8 2, zI (zar 1 r2.1 10)] r3.2).bind fun r4 => if x2 = 0 then zden w (d + 1) 144 30 [zA 12 16 1, zI x1, zI x2, zI r1.1, zI (zar 1 r2.1 10), zI r3.1, zI r4.1] [] r4.2 else if x2 = 1 then zden w (d + 1) 144 35 [zA 12 16 1, zI x1, zI x2, zI r1.1, zI (zar 1 r2.1 10), zI r3.1, zI r4.1] [] r4.2 else if x2 = 2 then zden w (d + 1) 144 40 [zA 12 16 1, zI x1, zI x2, zI r1.1, zI (zar 1 r2.1 10), zI r3.1, zI r4.1] [] r4.2 else if x2 = 3 then zden w (d + 1) 144 70 [zA 12 16 1, zI x1, zI x2, zI r1.1, zI (zar 1 r2.1 10), zI r3.1, zI r4.1] [] r4.2 else if x2 = 4 then zden w (d + 1) 144 70 [zA 12 16 1, zI x1, zI x2, zI r1.1, zI (zar 1 r2.1 10), zI r3.1, zI r4.1] [] r4.2 else if x2 = 5 then zden w (d + 1) 144 70 [zA 12 16 1, zI x1, zI x2, zI r1.1, zI (zar 1 r2.1 10), zI r3.1, zI r4.1] [] r4.2 else if x2 = 6 then zden w (d + 1) 144 42 [zA 12 16 1, zI x1, zI x2, zI r1.1, zI (zar 1 r2.1 10), zI r3.1, zI r4.1] [] r4.2 else if x2 = 7 then zden w (d + 1) 144 44 [zA 12 16 1, zI x1, zI x2, zI r1.1, zI (zar 1 r2.1 10), zI r3.1, zI r4.1] [] r4.2 else if x2 = 8 then zden w (d + 1) 144 54 [zA 12 16 1, zI x1, zI x2, zI r1.1, zI (zar 1 r2.1 10), zI r3.1, zI r4.1] [] r4.2 else if x2 = 9 then zden w (d + 1) 144 54 [zA 12 16 1, zI x1, zI x2, zI r1.1, zI (zar 1 r2.1 10), zI r3.1, zI r4.1] [] r4.2 else if x2 = 10 then zden w (d + 1) 144 62 [zA 12 16 1, zI x1, zI x2, zI r1.1, zI (zar 1 r2.1 10), zI r3.1, zI r4.1] [] r4.2 else zden w (d + 1) 144 70 [zA 12 16 1, zI x1, zI x2, zI r1.1, zI (zar 1 r2.1 10), zI r3.1, zI r4.1] [] r4.2 else (zcall w d 194 [zA 12 16 1, zI r1.1] r1.2).bind fun r5 => some (r5.1, r5.2) :=
  (zcall_eq rfl).trans (zunr_eq w zc_X11_says [30, 35, 40, 42, 44, 54, 62, 70] (d + 1) 144 rfl 125 _ _ _ _).symm
set_option maxRecDepth 100000 in
theorem hX11_says_30 (w : zW) (d : Nat) (x4 : Int) (v1 v2 v3 v5 v6 : zV) (σ : zMem) : zden w (d + 1) 144 30 [zA 12 16 1, v1, v2, v3, zI x4, v5, v6] [] σ =
  (zcall w d 115 [zA 10 8 2, zI x4] σ).bind fun r1 => some (r1.1, r1.2) :=
  (zunr_eq w zc_X11_says [30, 35, 40, 42, 44, 54, 62, 70] (d + 1) 144 rfl 125 _ _ _ _).symm
set_option maxRecDepth 100000 in
theorem hX11_says_35 (w : zW) (d : Nat) (x4 : Int) (v1 v2 v3 v5 v6 : zV) (σ : zMem) : zden w (d + 1) 144 35 [zA 12 16 1, v1, v2, v3, zI x4, v5, v6] [] σ =
  (zcall w d 198 [zA 12 16 1, zI x4] σ).bind fun r1 => (zcall w d 57 [zA 6 1 r1.1] r1.2).bind fun r2 => some (r2.1, r2.2) :=
  (zunr_eq w zc_X11_says [30, 35, 40, 42, 44, 54, 62, 70] (d + 1) 144 rfl 125 _ _ _ _).symm
set_option maxRecDepth 100000 in
theorem hX11_says_40 (w : zW) (d : Nat) (x5 : Int) (v0 v1 v2 v3 v4 v6 : zV) (σ : zMem) : zden w (d + 1) 144 40 [v0, v1, v2, v3, v4, zI x5, v6] [] σ =
  some (x5, σ) :=
  (zunr_eq w zc_X11_says [30, 35, 40, 42, 44, 54, 62, 70] (d + 1) 144 rfl 125 _ _ _ _).symm
set_option maxRecDepth 100000 in
theorem hX11_says_42 (w : zW) (d : Nat) (x6 : Int) (v0 v1 v2 v3 v4 v5 : zV) (σ : zMem) : zden w (d + 1) 144 42 [v0, v1, v2, v3, v4, v5, zI x6] [] σ =
  some (x6, σ) :=
  (zunr_eq w zc_X11_says [30, 35, 40, 42, 44, 54, 62, 70] (d + 1) 144 rfl 125 _ _ _ _).symm
set_option maxRecDepth 100000 in
theorem hX11_says_44 (w : zW) (d : Nat) (x4 x5 : Int) (v1 v2 v3 v6 : zV) (σ : zMem) : zden w (d + 1) 144 44 [zA 12 16 1, v1, v2, v3, zI x4, zI x5, v6] [] σ =
  (zcall w d 198 [zA 12 16 1, zI x4] σ).bind fun r1 => (zcall w d 57 [zA 6 1 r1.1] r1.2).bind fun r2 => (zcall w d 198 [zA 12 16 1, zI x5] r2.2).bind fun r3 => (zcall w d 57 [zA 6 1 r3.1] r3.2).bind fun r4 => some (zar 1 r2.1 r4.1, r4.2) :=
  (zunr_eq w zc_X11_says [30, 35, 40, 42, 44, 54, 62, 70] (d + 1) 144 rfl 125 _ _ _ _).symm
set_option maxRecDepth 100000 in
theorem hX11_says_54 (w : zW) (d : Nat) (x5 x6 : Int) (v1 v2 v3 v4 : zV) (σ : zMem) : zden w (d + 1) 144 54 [zA 12 16 1, v1, v2, v3, v4, zI x5, zI x6] [] σ =
  (zcall w d 198 [zA 12 16 1, zI x5] σ).bind fun r1 => (zcall w d 198 [zA 12 16 1, zI x6] r1.2).bind fun r2 => (zcall w d 59 [zA 6 1 r1.1, zA 6 1 r2.1] r2.2).bind fun r3 => some (r3.1, r3.2) :=
  (zunr_eq w zc_X11_says [30, 35, 40, 42, 44, 54, 62, 70] (d + 1) 144 rfl 125 _ _ _ _).symm
set_option maxRecDepth 100000 in
theorem hX11_says_62 (w : zW) (d : Nat) (x5 x6 : Int) (v1 v2 v3 v4 : zV) (σ : zMem) : zden w (d + 1) 144 62 [zA 12 16 1, v1, v2, v3, v4, zI x5, zI x6] [] σ =
  (zcall w d 198 [zA 12 16 1, zI x5] σ).bind fun r1 => (zcall w d 198 [zA 12 16 1, zI x6] r1.2).bind fun r2 => (zcall w d 58 [zA 6 1 r1.1, zA 6 1 r2.1] r2.2).bind fun r3 => some (r3.1, r3.2) :=
  (zunr_eq w zc_X11_says [30, 35, 40, 42, 44, 54, 62, 70] (d + 1) 144 rfl 125 _ _ _ _).symm
set_option maxRecDepth 100000 in
theorem hX11_says_70 (w : zW) (d : Nat) (x2 x4 : Int) (v1 v3 v5 v6 : zV) (σ : zMem) : zden w (d + 1) 144 70 [zA 12 16 1, v1, zI x2, v3, zI x4, v5, v6] [] σ =
  (zcall w d 146 [zA 12 16 1, zI x2, zI x4] σ).bind fun r1 => some (r1.1, r1.2) :=
  (zunr_eq w zc_X11_says [30, 35, 40, 42, 44, 54, 62, 70] (d + 1) 144 rfl 125 _ _ _ _).symm
set_option maxRecDepth 100000 in
theorem eX11_saysRefusal (w : zW) (d : Nat) (x1 x2 : Int) (σ : zMem) : zcall w (d + 1) 145 [zA 12 16 1, zI x1, zI x2] σ =
  (zcall w d 201 [zI x1] σ).bind fun r1 => if r1.1 = 0 then some (-62, r1.2) else (zcall w d 200 [zI x2, zI 0, zI 17] r1.2).bind fun r2 => if r2.1 = 0 then some (-62, r2.2) else (zcall w d 81 [zA 8 3 74, zI x1] r2.2).bind fun r3 => if r3.1 = (-1) then some (-64, r3.2) else (zcall w d 197 [zA 12 16 1, zI (zar 1 r3.1 10)] r3.2).bind fun r4 => if r4.1 = 0 then some (-63, r4.2) else (zcall w d 112 [zA 10 8 2, zI (zar 1 r3.1 10)] r4.2).bind fun r5 => (zcall w d 26 [zI r5.1, zI x2] r5.2).bind fun r6 => if r6.1 = 0 then some (-63, r6.2) else some (0, r6.2) :=
  (zcall_eq rfl).trans (zunr_eq w zc_X11_saysRefusal [] (d + 1) 145 rfl 89 _ _ _ _).symm
set_option maxRecDepth 100000 in
theorem eX11_saidOfNumbers (w : zW) (d : Nat) (x1 x2 : Int) (σ : zMem) : zcall w (d + 1) 146 [zA 12 16 1, zI x1, zI x2] σ =
  (zcall w d 118 [zA 10 8 2, zI x2, zI 0] σ).bind fun r1 => (zcall w d 118 [zA 10 8 2, zI x2, zI 1] r1.2).bind fun r2 => (zcall w d 118 [zA 10 8 2, zI x2, zI 2] r2.2).bind fun r3 => (zcall w d 118 [zA 10 8 2, zI x2, zI 3] r3.2).bind fun r4 => if x1 = 3 then zden w (d + 1) 146 52 [zA 12 16 1, zI x1, zI x2, zI r1.1, zI r2.1, zI r3.1, zI r4.1] [] r4.2 else if x1 = 4 then zden w (d + 1) 146 26 [zA 12 16 1, zI x1, zI x2, zI r1.1, zI r2.1, zI r3.1, zI r4.1] [] r4.2 else if x1 = 5 then zden w (d + 1) 146 52 [zA 12 16 1, zI x1, zI x2, zI r1.1, zI r2.1, zI r3.1, zI r4.1] [] r4.2 else if x1 = 6 then zden w (d + 1) 146 74 [zA 12 16 1, zI x1, zI x2, zI r1.1, zI r2.1, zI r3.1, zI r4.1] [] r4.2 else if x1 = 7 then zden w (d + 1) 146 74 [zA 12 16 1, zI x1, zI x2, zI r1.1, zI r2.1, zI r3.1, zI r4.1] [] r4.2 else if x1 = 8 then zden w (d + 1) 146 74 [zA 12 16 1, zI x1, zI x2, zI r1.1, zI r2.1, zI r3.1, zI r4.1] [] r4.2 else if x1 = 9 then zden w (d + 1) 146 74 [zA 12 16 1, zI x1, zI x2, zI r1.1, zI r2.1, zI r3.1, zI r4.1] [] r4.2 else if x1 = 10 then zden w (d + 1) 146 74 [zA 12 16 1, zI x1, zI x2, zI r1.1, zI r2.1, zI r3.1, zI r4.1] [] r4.2 else if x1 = 11 then zden w (d + 1) 146 54 [zA 12 16 1, zI x1, zI x2, zI r1.1, zI r2.1, zI r3.1, zI r4.1] [] r4.2 else if x1 = 12 then zden w (d + 1) 146 60 [zA 12 16 1, zI x1, zI x2, zI r1.1, zI r2.1, zI r3.1, zI r4.1] [] r4.2 else if x1 = 13 then zden w (d + 1) 146 66 [zA 12 16 1, zI x1, zI x2, zI r1.1, zI r2.1, zI r3.1, zI r4.1] [] r4.2 else if x1 = 14 then zden w (d + 1) 146 66 [zA 12 16 1, zI x1, zI x2, zI r1.1, zI r2.1, zI r3.1, zI r4.1] [] r4.2 else if x1 = 15 then zden w (d + 1) 146 68 [zA 12 16 1, zI x1, zI x2, zI r1.1, zI r2.1, zI r3.1, zI r4.1] [] r4.2 else zden w (d + 1) 146 74 [zA 12 16 1, zI x1, zI x2, zI r1.1, zI r2.1, zI r3.1, zI r4.1] [] r4.2 :=
  (zcall_eq rfl).trans (zunr_eq w zc_X11_saidOfNumbers [26, 52, 54, 60, 66, 68, 74] (d + 1) 146 rfl 126 _ _ _ _).symm
set_option maxRecDepth 100000 in
theorem hX11_saidOfNumbers_26 (w : zW) (d : Nat) (x2 x3 x4 x5 x6 : Int) (v1 : zV) (σ : zMem) : zden w (d + 1) 146 26 [zA 12 16 1, v1, zI x2, zI x3, zI x4, zI x5, zI x6] [] σ =
  (zcall w d 118 [zA 10 8 2, zI x2, zI 4] σ).bind fun r1 => (zcall w d 118 [zA 10 8 2, zI x2, zI 5] r1.2).bind fun r2 => some (zar 2 (zar 2 (zar 0 (zar 1 x6 x3) 1) (zar 0 (zar 1 r1.1 x4) 1)) (zar 0 (zar 1 r2.1 x5) 1), r2.2) :=
  (zunr_eq w zc_X11_saidOfNumbers [26, 52, 54, 60, 66, 68, 74] (d + 1) 146 rfl 126 _ _ _ _).symm
set_option maxRecDepth 100000 in
theorem hX11_saidOfNumbers_52 (w : zW) (d : Nat) (x6 : Int) (v0 v1 v2 v3 v4 v5 : zV) (σ : zMem) : zden w (d + 1) 146 52 [v0, v1, v2, v3, v4, v5, zI x6] [] σ =
  some (x6, σ) :=
  (zunr_eq w zc_X11_saidOfNumbers [26, 52, 54, 60, 66, 68, 74] (d + 1) 146 rfl 126 _ _ _ _).symm
set_option maxRecDepth 100000 in
theorem hX11_saidOfNumbers_54 (w : zW) (d : Nat) (x3 x4 : Int) (v0 v1 v2 v5 v6 : zV) (σ : zMem) : zden w (d + 1) 146 54 [v0, v1, v2, zI x3, zI x4, v5, v6] [] σ =
  some (zar 0 (zar 2 10 x3) x4, σ) :=
  (zunr_eq w zc_X11_saidOfNumbers [26, 52, 54, 60, 66, 68, 74] (d + 1) 146 rfl 126 _ _ _ _).symm
set_option maxRecDepth 100000 in
theorem hX11_saidOfNumbers_60 (w : zW) (d : Nat) (x3 x4 x5 : Int) (v0 v1 v2 v6 : zV) (σ : zMem) : zden w (d + 1) 146 60 [v0, v1, v2, zI x3, zI x4, zI x5, v6] [] σ =
  some (zar 0 (zar 0 x3 x4) x5, σ) :=
  (zunr_eq w zc_X11_saidOfNumbers [26, 52, 54, 60, 66, 68, 74] (d + 1) 146 rfl 126 _ _ _ _).symm
set_option maxRecDepth 100000 in
theorem hX11_saidOfNumbers_66 (w : zW) (d : Nat) (x4 : Int) (v0 v1 v2 v3 v5 v6 : zV) (σ : zMem) : zden w (d + 1) 146 66 [v0, v1, v2, v3, zI x4, v5, v6] [] σ =
  some (x4, σ) :=
  (zunr_eq w zc_X11_saidOfNumbers [26, 52, 54, 60, 66, 68, 74] (d + 1) 146 rfl 126 _ _ _ _).symm
set_option maxRecDepth 100000 in
theorem hX11_saidOfNumbers_68 (w : zW) (d : Nat) (x3 x4 : Int) (v0 v1 v2 v5 v6 : zV) (σ : zMem) : zden w (d + 1) 146 68 [v0, v1, v2, zI x3, zI x4, v5, v6] [] σ =
  some (zar 1 (zar 1 3 x3) x4, σ) :=
  (zunr_eq w zc_X11_saidOfNumbers [26, 52, 54, 60, 66, 68, 74] (d + 1) 146 rfl 126 _ _ _ _).symm
set_option maxRecDepth 100000 in
theorem hX11_saidOfNumbers_74 (w : zW) (d : Nat) (x3 : Int) (v0 v1 v2 v4 v5 v6 : zV) (σ : zMem) : zden w (d + 1) 146 74 [v0, v1, v2, zI x3, v4, v5, v6] [] σ =
  some (x3, σ) :=
  (zunr_eq w zc_X11_saidOfNumbers [26, 52, 54, 60, 66, 68, 74] (d + 1) 146 rfl 126 _ _ _ _).symm
set_option maxRecDepth 100000 in
theorem eX11_feed (w : zW) (d : Nat) (x1 : Int) (σ : zMem) : zcall w (d + 1) 147 [zA 12 16 1, zI x1] σ =
  (zcall w d 200 [zI x1, zI 0, zI 255] σ).bind fun r1 => if r1.1 = 0 then (zcall w d 194 [zA 12 16 1, zI (-62)] r1.2).bind fun r2 => some (r2.1, r2.2) else (zcall w d 65 [zA 7 11 78] r1.2).bind fun r3 => if r3.1 = 0 then (zcall w d 66 [zA 7 11 78, zI x1] r3.2).bind fun r4 => (zcall w d 63 [zA 7 11 78] r4.2).bind fun r5 => some (r5.1, r5.2) else (zcall w d 194 [zA 12 16 1, zI (-66)] r3.2).bind fun r6 => some (r6.1, r6.2) :=
  (zcall_eq rfl).trans (zunr_eq w zc_X11_feed [] (d + 1) 147 rfl 75 _ _ _ _).symm
set_option maxRecDepth 100000 in
theorem eX11_wipe (w : zW) (d : Nat) (σ : zMem) : zcall w (d + 1) 148 [zA 12 16 1] σ =
  (zcall w d 63 [zA 7 11 78] σ).bind fun r1 => (zcall w d 67 [zA 7 11 78] r1.2).bind fun r2 => some (r1.1, r2.2) :=
  (zcall_eq rfl).trans (zunr_eq w zc_X11_wipe [] (d + 1) 148 rfl 59 _ _ _ _).symm
set_option maxRecDepth 100000 in
theorem eX11_shape (w : zW) (d : Nat) (σ : zMem) : zcall w (d + 1) 149 [zA 12 16 1] σ =
  (zcall w d 68 [zA 7 11 78, zA 10 8 2] σ).bind fun r1 => (zcall w d 64 [zA 7 11 78] r1.2).bind fun r2 => (zcall w d 67 [zA 7 11 78] r2.2).bind fun r3 => if r1.1 = (-1) then (zcall w d 110 [zA 10 8 2] r3.2).bind fun r4 => if (zar 1 24 r4.1) < r2.1 then (zcall w d 194 [zA 12 16 1, zI (-66)] r4.2).bind fun r5 => some (r5.1, r5.2) else (zcall w d 160 [zA 12 16 1, zI r2.1] r4.2).bind fun r6 => some (r6.1, r6.2) else (zcall w d 194 [zA 12 16 1, zI (-62)] r3.2).bind fun r7 => some (zar 1 (-700) r1.1, r7.2) :=
  (zcall_eq rfl).trans (zunr_eq w zc_X11_shape [] (d + 1) 149 rfl 89 _ _ _ _).symm
set_option maxRecDepth 100000 in
theorem eX11_ball (w : zW) (d : Nat) (x1 x2 x3 x4 : Int) (σ : zMem) : zcall w (d + 1) 150 [zA 12 16 1, zI x1, zI x2, zI x3, zI x4] σ =
  (zcall w d 158 [zA 12 16 1, zI x1, zI x2, zI x3] σ).bind fun r1 => (zcall w d 159 [zA 12 16 1, zI 3, zI (-1), zI (-1)] (zup r1.2 206 3 x4)).bind fun r2 => some (r2.1, r2.2) :=
  (zcall_eq rfl).trans (zunr_eq w zc_X11_ball [] (d + 1) 150 rfl 66 _ _ _ _).symm
set_option maxRecDepth 100000 in
theorem eX11_box (w : zW) (d : Nat) (x1 x2 x3 x4 x5 x6 : Int) (σ : zMem) : zcall w (d + 1) 151 [zA 12 16 1, zI x1, zI x2, zI x3, zI x4, zI x5, zI x6] σ =
  (zcall w d 158 [zA 12 16 1, zI x1, zI x2, zI x3] σ).bind fun r1 => (zcall w d 159 [zA 12 16 1, zI 4, zI (-1), zI (-1)] (zup (zup (zup r1.2 206 3 x4) 206 4 x5) 206 5 x6)).bind fun r2 => some (r2.1, r2.2) :=
  (zcall_eq rfl).trans (zunr_eq w zc_X11_box [] (d + 1) 151 rfl 76 _ _ _ _).symm
set_option maxRecDepth 100000 in
theorem eX11_half (w : zW) (d : Nat) (x1 x2 x3 x4 : Int) (σ : zMem) : zcall w (d + 1) 152 [zA 12 16 1, zI x1, zI x2, zI x3, zI x4] σ =
  (zcall w d 158 [zA 12 16 1, zI x1, zI x2, zI x3] σ).bind fun r1 => (zcall w d 159 [zA 12 16 1, zI 5, zI (-1), zI (-1)] (zup r1.2 206 3 x4)).bind fun r2 => some (r2.1, r2.2) :=
  (zcall_eq rfl).trans (zunr_eq w zc_X11_half [] (d + 1) 152 rfl 66 _ _ _ _).symm
set_option maxRecDepth 100000 in
theorem eX11_pair (w : zW) (d : Nat) (x1 x2 x3 : Int) (σ : zMem) : zcall w (d + 1) 153 [zA 12 16 1, zI x1, zI x2, zI x3] σ =
  (zcall w d 200 [zI x1, zI 8, zI 10] σ).bind fun r1 => if r1.1 = 0 then (zcall w d 194 [zA 12 16 1, zI (-62)] r1.2).bind fun r2 => some (r2.1, r2.2) else (zcall w d 197 [zA 12 16 1, zI x3] r1.2).bind fun r3 => if r3.1 = 0 then (zcall w d 194 [zA 12 16 1, zI (-62)] r3.2).bind fun r4 => some (r4.1, r4.2) else (zcall w d 159 [zA 12 16 1, zI x1, zI x2, zI x3] r3.2).bind fun r5 => some (r5.1, r5.2) :=
  (zcall_eq rfl).trans (zunr_eq w zc_X11_pair [] (d + 1) 153 rfl 69 _ _ _ _).symm
set_option maxRecDepth 100000 in
theorem eX11_blend (w : zW) (d : Nat) (x1 x2 x3 x4 : Int) (σ : zMem) : zcall w (d + 1) 154 [zA 12 16 1, zI x1, zI x2, zI x3, zI x4] σ =
  (zcall w d 197 [zA 12 16 1, zI x2] σ).bind fun r1 => if r1.1 = 0 then (zcall w d 194 [zA 12 16 1, zI (-62)] r1.2).bind fun r2 => some (r2.1, r2.2) else (zcall w d 158 [zA 12 16 1, zI x3, zI x4, zI 0] r1.2).bind fun r3 => (zcall w d 159 [zA 12 16 1, zI 11, zI x1, zI x2] r3.2).bind fun r4 => some (r4.1, r4.2) :=
  (zcall_eq rfl).trans (zunr_eq w zc_X11_blend [] (d + 1) 154 rfl 69 _ _ _ _).symm
set_option maxRecDepth 100000 in
theorem eX11_shift (w : zW) (d : Nat) (x1 x2 x3 x4 : Int) (σ : zMem) : zcall w (d + 1) 155 [zA 12 16 1, zI x1, zI x2, zI x3, zI x4] σ =
  (zcall w d 158 [zA 12 16 1, zI x2, zI x3, zI x4] σ).bind fun r1 => (zcall w d 159 [zA 12 16 1, zI 12, zI x1, zI (-1)] r1.2).bind fun r2 => some (r2.1, r2.2) :=
  (zcall_eq rfl).trans (zunr_eq w zc_X11_shift [] (d + 1) 155 rfl 61 _ _ _ _).symm
set_option maxRecDepth 100000 in
theorem eX11_change (w : zW) (d : Nat) (x1 x2 x3 x4 : Int) (σ : zMem) : zcall w (d + 1) 156 [zA 12 16 1, zI x1, zI x2, zI x3, zI x4] σ =
  (zcall w d 200 [zI x1, zI 13, zI 15] σ).bind fun r1 => if r1.1 = 0 then (zcall w d 194 [zA 12 16 1, zI (-62)] r1.2).bind fun r2 => some (r2.1, r2.2) else (zcall w d 158 [zA 12 16 1, zI x3, zI x4, zI 0] r1.2).bind fun r3 => (zcall w d 159 [zA 12 16 1, zI x1, zI x2, zI (-1)] r3.2).bind fun r4 => some (r4.1, r4.2) :=
  (zcall_eq rfl).trans (zunr_eq w zc_X11_change [] (d + 1) 156 rfl 70 _ _ _ _).symm
set_option maxRecDepth 100000 in
theorem eX11_grown (w : zW) (d : Nat) (x1 x2 x3 x4 : Int) (σ : zMem) : zcall w (d + 1) 157 [zA 12 16 1, zI x1, zI x2, zI x3, zI x4] σ =
  (zcall w d 200 [zI x1, zI 16, zI 17] σ).bind fun r1 => if r1.1 = 0 then (zcall w d 194 [zA 12 16 1, zI (-62)] r1.2).bind fun r2 => some (r2.1, r2.2) else (zcall w d 158 [zA 12 16 1, zI x3, zI x4, zI 0] r1.2).bind fun r3 => (zcall w d 159 [zA 12 16 1, zI x1, zI x2, zI (-1)] r3.2).bind fun r4 => some (r4.1, r4.2) :=
  (zcall_eq rfl).trans (zunr_eq w zc_X11_grown [] (d + 1) 157 rfl 70 _ _ _ _).symm
set_option maxRecDepth 100000 in
theorem eX11_putNumbers (w : zW) (d : Nat) (x1 x2 x3 : Int) (σ : zMem) : zcall w d 158 [zA 12 16 1, zI x1, zI x2, zI x3] σ =
  some (0, zup (zup (zup σ 206 0 x1) 206 1 x2) 206 2 x3) :=
  (zcall_eq rfl).trans (zunr_eq w zc_X11_putNumbers [] d 158 rfl 66 _ _ _ _).symm
set_option maxRecDepth 100000 in
theorem eX11_built (w : zW) (d : Nat) (x1 x2 x3 : Int) (σ : zMem) : zcall w (d + 1) 159 [zA 12 16 1, zI x1, zI x2, zI x3] σ =
  (zcall w d 27 [zI x1] σ).bind fun r1 => if r1.1 = 0 then (zcall w d 197 [zA 12 16 1, zI x2] r1.2).bind fun r2 => if r2.1 = 0 then (zcall w d 194 [zA 12 16 1, zI (-62)] r2.2).bind fun r3 => some (r3.1, r3.2) else (zcall w d 30 [zI x1, zA 20 6 206] r2.2).bind fun r4 => if r4.1 = 0 then (zcall w d 194 [zA 12 16 1, zI (-62)] r4.2).bind fun r5 => some (r5.1, r5.2) else (zcall w d 119 [zA 10 8 2, zI x1, zI x2, zI x3] r4.2).bind fun r6 => if r6.1 = 0 then (zcall w d 110 [zA 10 8 2] r6.2).bind fun r7 => if r7.1 < 24 then (zcall w d 110 [zA 10 8 2] r7.2).bind fun r8 => (zcall w d 122 [zA 10 8 2, zI r8.1, zI x1, zI x2, zI x3, zA 20 6 206] r8.2).bind fun r9 => (zcall w d 160 [zA 12 16 1, zI 1] r9.2).bind fun r10 => some (r10.1, r10.2) else (zcall w d 194 [zA 12 16 1, zI (-66)] r7.2).bind fun r11 => some (r11.1, r11.2) else (zcall w d 194 [zA 12 16 1, zI (-65)] r6.2).bind fun r12 => some (r12.1, r12.2) else (zcall w d 30 [zI x1, zA 20 6 206] r1.2).bind fun r13 => if r13.1 = 0 then (zcall w d 194 [zA 12 16 1, zI (-62)] r13.2).bind fun r14 => some (r14.1, r14.2) else (zcall w d 119 [zA 10 8 2, zI x1, zI x2, zI x3] r13.2).bind fun r15 => if r15.1 = 0 then (zcall w d 110 [zA 10 8 2] r15.2).bind fun r16 => if r16.1 < 24 then (zcall w d 110 [zA 10 8 2] r16.2).bind fun r17 => (zcall w d 122 [zA 10 8 2, zI r17.1, zI x1, zI x2, zI x3, zA 20 6 206] r17.2).bind fun r18 => (zcall w d 160 [zA 12 16 1, zI 1] r18.2).bind fun r19 => some (r19.1, r19.2) else (zcall w d 194 [zA 12 16 1, zI (-66)] r16.2).bind fun r20 => some (r20.1, r20.2) else (zcall w d 194 [zA 12 16 1, zI (-65)] r15.2).bind fun r21 => some (r21.1, r21.2) :=
  (zcall_eq rfl).trans (zunr_eq w zc_X11_built [] (d + 1) 159 rfl 101 _ _ _ _).symm
set_option maxRecDepth 100000 in
theorem eX11_added (w : zW) (d : Nat) (x1 : Int) (σ : zMem) : zcall w (d + 1) 160 [zA 12 16 1, zI x1] σ =
  (zcall w d 110 [zA 10 8 2] σ).bind fun r1 => (zcall w d 36 [zA 4 5 85, zI r1.1] r1.2).bind fun r2 => (zcall w d 110 [zA 10 8 2] r2.2).bind fun r3 => (zcall w d 111 [zA 10 8 2, zI (zar 0 r3.1 x1)] r3.2).bind fun r4 => (zcall w d 110 [zA 10 8 2] r4.2).bind fun r5 => some (zar 1 r5.1 1, r5.2) :=
  (zcall_eq rfl).trans (zunr_eq w zc_X11_added [] (d + 1) 160 rfl 70 _ _ _ _).symm
set_option maxRecDepth 100000 in
theorem eX11_drop (w : zW) (d : Nat) (σ : zMem) : zcall w (d + 1) 161 [zA 12 16 1] σ =
  (zcall w d 110 [zA 10 8 2] σ).bind fun r1 => if r1.1 < 1 then (zcall w d 194 [zA 12 16 1, zI (-65)] r1.2).bind fun r2 => some (r2.1, r2.2) else (zcall w d 110 [zA 10 8 2] r1.2).bind fun r3 => (zcall w d 111 [zA 10 8 2, zI (zar 1 r3.1 1)] r3.2).bind fun r4 => (zcall w d 110 [zA 10 8 2] r4.2).bind fun r5 => (zcall w d 343 [zI (r4.2 1 15), zI r5.1] r5.2).bind fun r6 => (zcall w d 110 [zA 10 8 2] (zup r6.2 1 15 r6.1)).bind fun r7 => (zcall w d 86 [zA 8 3 74, zI r7.1] r7.2).bind fun r8 => (zcall w d 110 [zA 10 8 2] r8.2).bind fun r9 => some (r9.1, r9.2) :=
  (zcall_eq rfl).trans (zunr_eq w zc_X11_drop [] (d + 1) 161 rfl 85 _ _ _ _).symm
set_option maxRecDepth 100000 in
theorem eX11_shapeOf (w : zW) (d : Nat) (x1 x2 : Int) (σ : zMem) : zcall w (d + 1) 162 [zA 12 16 1, zI x1, zI x2] σ =
  (zcall w d 197 [zA 12 16 1, zI x1] σ).bind fun r1 => if r1.1 = 0 then (zcall w d 194 [zA 12 16 1, zI (-62)] r1.2).bind fun r2 => some (r2.1, r2.2) else if x2 = 0 then (zcall w d 112 [zA 10 8 2, zI x1] r1.2).bind fun r3 => some (r3.1, r3.2) else if x2 = 1 then (zcall w d 113 [zA 10 8 2, zI x1] r1.2).bind fun r4 => some (r4.1, r4.2) else if x2 = 2 then (zcall w d 114 [zA 10 8 2, zI x1] r1.2).bind fun r5 => some (r5.1, r5.2) else if x2 = 3 then (zcall w d 115 [zA 10 8 2, zI x1] r1.2).bind fun r6 => some (r6.1, r6.2) else if x2 = 4 then (zcall w d 116 [zA 10 8 2, zI x1] r1.2).bind fun r7 => some (r7.1, r7.2) else (zcall w d 194 [zA 12 16 1, zI (-62)] r1.2).bind fun r8 => some (r8.1, r8.2) :=
  (zcall_eq rfl).trans (zunr_eq w zc_X11_shapeOf [] (d + 1) 162 rfl 89 _ _ _ _).symm
set_option maxRecDepth 100000 in
theorem eX11_worth (w : zW) (d : Nat) (x1 x2 x3 x4 x5 : Int) (σ : zMem) : zcall w (d + 1) 163 [zA 12 16 1, zI x1, zI x2, zI x3, zI x4, zI x5] σ =
  (zcall w d 197 [zA 12 16 1, zI x1] σ).bind fun r1 => if r1.1 = 0 then (zcall w d 194 [zA 12 16 1, zI (-62)] r1.2).bind fun r2 => some (zar 12 r2.1 (-9000000000000), r2.2) else (zcall w d 204 [zI x2] r1.2).bind fun r3 => if r3.1 = 0 then (zcall w d 194 [zA 12 16 1, zI (-62)] r3.2).bind fun r4 => some (zar 12 r4.1 (-9000000000000), r4.2) else (zcall w d 204 [zI x3] r3.2).bind fun r5 => if r5.1 = 0 then (zcall w d 194 [zA 12 16 1, zI (-62)] r5.2).bind fun r6 => some (zar 12 r6.1 (-9000000000000), r6.2) else (zcall w d 204 [zI x4] r5.2).bind fun r7 => if r7.1 = 0 then (zcall w d 194 [zA 12 16 1, zI (-62)] r7.2).bind fun r8 => some (zar 12 r8.1 (-9000000000000), r8.2) else (zcall w d 200 [zI x5, zI 0, zI 1] r7.2).bind fun r9 => if r9.1 = 0 then (zcall w d 194 [zA 12 16 1, zI (-62)] r9.2).bind fun r10 => some (zar 12 r10.1 (-9000000000000), r10.2) else (zcall w d 42 [zA 5 2 173, zA 10 8 2, zI x1, zI x2, zI x3, zI x4] r9.2).bind fun r11 => if x5 = 0 then (zcall w d 11 [zA 2 2 r11.1] r11.2).bind fun r12 => some (r12.1, r12.2) else (zcall w d 12 [zA 2 2 r11.1] r11.2).bind fun r13 => some (r13.1, r13.2) :=
  (zcall_eq rfl).trans (zunr_eq w zc_X11_worth [] (d + 1) 163 rfl 93 _ _ _ _).symm
set_option maxRecDepth 100000 in
theorem eX11_bounds (w : zW) (d : Nat) (x1 x2 x3 x4 : Int) (σ : zMem) : zcall w (d + 1) 164 [zA 12 16 1, zI x1, zI x2, zI x3, zI x4] σ =
  (zcall w d 197 [zA 12 16 1, zI x1] σ).bind fun r1 => if r1.1 = 0 then (zcall w d 194 [zA 12 16 1, zI (-62)] r1.2).bind fun r2 => some (zar 12 r2.1 (-9000000000000), r2.2) else (zcall w d 207 [zI x2, zI x3] r1.2).bind fun r3 => if r3.1 = 0 then (zcall w d 194 [zA 12 16 1, zI (-62)] r3.2).bind fun r4 => some (zar 12 r4.1 (-9000000000000), r4.2) else (zcall w d 200 [zI x4, zI 0, zI 3] r3.2).bind fun r5 => if r5.1 = 0 then (zcall w d 194 [zA 12 16 1, zI (-62)] r5.2).bind fun r6 => some (zar 12 r6.1 (-9000000000000), r6.2) else (zcall w d 209 [zI x2, zI 0] r5.2).bind fun r7 => (zcall w d 209 [zI x2, zI 1] r7.2).bind fun r8 => (zcall w d 209 [zI x2, zI 2] r8.2).bind fun r9 => (zcall w d 93 [zA 9 3 184, zI r7.1, zI r8.1, zI r9.1] r9.2).bind fun r10 => (zcall w d 209 [zI x3, zI 0] r10.2).bind fun r11 => (zcall w d 209 [zI x3, zI 1] r11.2).bind fun r12 => (zcall w d 209 [zI x3, zI 2] r12.2).bind fun r13 => (zcall w d 94 [zA 9 3 184, zI r11.1, zI r12.1, zI r13.1] r13.2).bind fun r14 => (zcall w d 97 [zA 9 3 184, zA 10 8 2, zI x1] r14.2).bind fun r15 => if x4 < 2 then (zcall w d 95 [zA 9 3 184] r15.2).bind fun r16 => if (zar 6 x4 1) = 0 then (zcall w d 11 [zA 2 2 r16.1] r16.2).bind fun r17 => some (r17.1, r17.2) else (zcall w d 12 [zA 2 2 r16.1] r16.2).bind fun r18 => some (r18.1, r18.2) else (zcall w d 96 [zA 9 3 184] r15.2).bind fun r19 => if (zar 6 x4 1) = 0 then (zcall w d 11 [zA 2 2 r19.1] r19.2).bind fun r20 => some (r20.1, r20.2) else (zcall w d 12 [zA 2 2 r19.1] r19.2).bind fun r21 => some (r21.1, r21.2) :=
  (zcall_eq rfl).trans (zunr_eq w zc_X11_bounds [] (d + 1) 164 rfl 121 _ _ _ _).symm
set_option maxRecDepth 100000 in
theorem eX11_in (w : zW) (d : Nat) (x1 x2 : Int) (σ : zMem) : zcall w (d + 1) 165 [zA 12 16 1, zI x1, zI x2] σ =
  (zcall w d 197 [zA 12 16 1, zI x1] σ).bind fun r1 => if r1.1 = 0 then (zcall w d 194 [zA 12 16 1, zI (-62)] r1.2).bind fun r2 => some (r2.1, r2.2) else (zcall w d 202 [zI x2] r1.2).bind fun r3 => if r3.1 = 0 then (zcall w d 194 [zA 12 16 1, zI (-62)] r3.2).bind fun r4 => some (r4.1, r4.2) else (zcall w d 198 [zA 12 16 1, zI x1] r3.2).bind fun r5 => (zcall w d 49 [zA 6 1 r5.1, zI x2] r5.2).bind fun r6 => if r6.1 = 0 then some (0, r6.2) else some (1, r6.2) :=
  (zcall_eq rfl).trans (zunr_eq w zc_X11_in [] (d + 1) 165 rfl 71 _ _ _ _).symm
set_option maxRecDepth 100000 in
theorem eX11_count (w : zW) (d : Nat) (x1 x2 : Int) (σ : zMem) : zcall w (d + 1) 166 [zA 12 16 1, zI x1, zI x2] σ =
  (zcall w d 197 [zA 12 16 1, zI x1] σ).bind fun r1 => if r1.1 = 0 then (zcall w d 194 [zA 12 16 1, zI (-62)] r1.2).bind fun r2 => some (r2.1, r2.2) else (zcall w d 200 [zI x2, zI 0, zI 1] r1.2).bind fun r3 => if r3.1 = 0 then (zcall w d 194 [zA 12 16 1, zI (-62)] r3.2).bind fun r4 => some (r4.1, r4.2) else if x2 = 0 then (zcall w d 198 [zA 12 16 1, zI x1] r3.2).bind fun r5 => (zcall w d 57 [zA 6 1 r5.1] r5.2).bind fun r6 => some (r6.1, r6.2) else (zcall w d 38 [zA 4 5 85, zA 10 8 2, zI x1] r3.2).bind fun r7 => some (r7.1, r7.2) :=
  (zcall_eq rfl).trans (zunr_eq w zc_X11_count [] (d + 1) 166 rfl 77 _ _ _ _).symm
set_option maxRecDepth 100000 in
theorem eX11_placeOf (w : zW) (d : Nat) (x1 x2 : Int) (σ : zMem) : zcall w (d + 1) 167 [zA 12 16 1, zI x1, zI x2] σ =
  (zcall w d 197 [zA 12 16 1, zI x1] σ).bind fun r1 => if r1.1 = 0 then (zcall w d 194 [zA 12 16 1, zI (-62)] r1.2).bind fun r2 => some (r2.1, r2.2) else (zcall w d 198 [zA 12 16 1, zI x1] r1.2).bind fun r3 => (zcall w d 61 [zA 6 1 r3.1, zI x2] r3.2).bind fun r4 => if r4.1 = (-1) then (zcall w d 194 [zA 12 16 1, zI (-62)] r4.2).bind fun r5 => some (r5.1, r5.2) else some (r4.1, r4.2) :=
  (zcall_eq rfl).trans (zunr_eq w zc_X11_placeOf [] (d + 1) 167 rfl 73 _ _ _ _).symm
set_option maxRecDepth 100000 in
theorem eX11_slice (w : zW) (d : Nat) (x1 x2 x3 : Int) (σ : zMem) : zcall w (d + 1) 168 [zA 12 16 1, zI x1, zI x2, zI x3] σ =
  (zcall w d 197 [zA 12 16 1, zI x1] σ).bind fun r1 => if r1.1 = 0 then (zcall w d 194 [zA 12 16 1, zI (-62)] r1.2).bind fun r2 => some (r2.1, r2.2) else (zcall w d 203 [zI x2] r1.2).bind fun r3 => if r3.1 = 0 then (zcall w d 194 [zA 12 16 1, zI (-62)] r3.2).bind fun r4 => some (r4.1, r4.2) else (zcall w d 200 [zI x3, zI 0, zI 15] r3.2).bind fun r5 => if r5.1 = 0 then (zcall w d 194 [zA 12 16 1, zI (-62)] r5.2).bind fun r6 => some (r6.1, r6.2) else (zcall w d 198 [zA 12 16 1, zI x1] r5.2).bind fun r7 => (zcall w d 60 [zA 6 1 r7.1, zI x2, zI x3] r7.2).bind fun r8 => some (r8.1, r8.2) :=
  (zcall_eq rfl).trans (zunr_eq w zc_X11_slice [] (d + 1) 168 rfl 73 _ _ _ _).symm
set_option maxRecDepth 100000 in
theorem eX11_reach (w : zW) (d : Nat) (x1 x2 x3 : Int) (σ : zMem) : zcall w (d + 1) 169 [zA 12 16 1, zI x1, zI x2, zI x3] σ =
  (zcall w d 197 [zA 12 16 1, zI x1] σ).bind fun r1 => if r1.1 = 0 then (zcall w d 194 [zA 12 16 1, zI (-62)] r1.2).bind fun r2 => some (r2.1, r2.2) else (zcall w d 203 [zI x2] r1.2).bind fun r3 => if r3.1 = 0 then (zcall w d 194 [zA 12 16 1, zI (-62)] r3.2).bind fun r4 => some (r4.1, r4.2) else (zcall w d 200 [zI x3, zI 0, zI 1] r3.2).bind fun r5 => if r5.1 = 0 then (zcall w d 194 [zA 12 16 1, zI (-62)] r5.2).bind fun r6 => some (r6.1, r6.2) else (zcall w d 198 [zA 12 16 1, zI x1] r5.2).bind fun r7 => zden w (d + 1) 169 22 [zA 12 16 1, zI x1, zI x2, zI x3, zA 6 1 r7.1, zI 0, zU] [] r7.2 :=
  (zcall_eq rfl).trans (zunr_eq w zc_X11_reach [22] (d + 1) 169 rfl 94 _ _ _ _).symm
set_option maxRecDepth 100000 in
theorem hX11_reach_22 (w : zW) (d : Nat) (x2 x3 a4 x5 : Int) (v0 v1 v6 : zV) (σ : zMem) : zden w (d + 1) 169 22 [v0, v1, zI x2, zI x3, zA 6 1 a4, zI x5, v6] [] σ =
  if x5 < 16 then if x3 = 0 then (zcall w d 60 [zA 6 1 a4, zI x2, zI x5] σ).bind fun r1 => if 0 < r1.1 then some (x5, r1.2) else zden w (d + 1) 169 22 [v0, v1, zI x2, zI x3, zA 6 1 a4, zI (zar 0 x5 1), zI x5] [] r1.2 else (zcall w d 60 [zA 6 1 a4, zI x2, zI (zar 1 15 x5)] σ).bind fun r2 => if 0 < r2.1 then some (zar 1 15 x5, r2.2) else zden w (d + 1) 169 22 [v0, v1, zI x2, zI x3, zA 6 1 a4, zI (zar 0 x5 1), zI (zar 1 15 x5)] [] r2.2 else some (-1, σ) :=
  (zunr_eq w zc_X11_reach [22] (d + 1) 169 rfl 94 _ _ _ _).symm
set_option maxRecDepth 100000 in
theorem eX11_ray (w : zW) (d : Nat) (x1 x2 x3 x4 x5 x6 : Int) (σ : zMem) : zcall w (d + 1) 170 [zA 12 16 1, zI x1, zI x2, zI x3, zI x4, zI x5, zI x6] σ =
  (zcall w d 197 [zA 12 16 1, zI x1] σ).bind fun r1 => if r1.1 = 0 then (zcall w d 194 [zA 12 16 1, zI (-62)] r1.2).bind fun r2 => some (r2.1, r2.2) else (zcall w d 202 [zI x2] r1.2).bind fun r3 => if r3.1 = 0 then (zcall w d 194 [zA 12 16 1, zI (-62)] r3.2).bind fun r4 => some (r4.1, r4.2) else (zcall w d 200 [zI x6, zI 0, zI 2] r3.2).bind fun r5 => if r5.1 = 0 then (zcall w d 194 [zA 12 16 1, zI (-62)] r5.2).bind fun r6 => some (r6.1, r6.2) else (zcall w d 205 [zI x3] r5.2).bind fun r7 => if r7.1 = 0 then (zcall w d 194 [zA 12 16 1, zI (-62)] r7.2).bind fun r8 => some (r8.1, r8.2) else (zcall w d 205 [zI x4] r7.2).bind fun r9 => if r9.1 = 0 then (zcall w d 194 [zA 12 16 1, zI (-62)] r9.2).bind fun r10 => some (r10.1, r10.2) else (zcall w d 205 [zI x5] r9.2).bind fun r11 => if r11.1 = 0 then (zcall w d 194 [zA 12 16 1, zI (-62)] r11.2).bind fun r12 => some (r12.1, r12.2) else if x3 = 0 then if x4 = 0 then if x5 = 0 then (zcall w d 194 [zA 12 16 1, zI (-62)] r11.2).bind fun r13 => some (r13.1, r13.2) else (zcall w d 198 [zA 12 16 1, zI x1] r11.2).bind fun r14 => (zcall w d 131 [zA 11 8 169, zA 6 1 r14.1, zI x2, zI x3, zI x4, zI x5] r14.2).bind fun r15 => if x6 = 0 then (zcall w d 125 [zA 11 8 169] r15.2).bind fun r16 => some (r16.1, r16.2) else if x6 = 1 then (zcall w d 126 [zA 11 8 169] r15.2).bind fun r17 => some (r17.1, r17.2) else (zcall w d 127 [zA 11 8 169] r15.2).bind fun r18 => some (r18.1, r18.2) else (zcall w d 198 [zA 12 16 1, zI x1] r11.2).bind fun r19 => (zcall w d 131 [zA 11 8 169, zA 6 1 r19.1, zI x2, zI x3, zI x4, zI x5] r19.2).bind fun r20 => if x6 = 0 then (zcall w d 125 [zA 11 8 169] r20.2).bind fun r21 => some (r21.1, r21.2) else if x6 = 1 then (zcall w d 126 [zA 11 8 169] r20.2).bind fun r22 => some (r22.1, r22.2) else (zcall w d 127 [zA 11 8 169] r20.2).bind fun r23 => some (r23.1, r23.2) else (zcall w d 198 [zA 12 16 1, zI x1] r11.2).bind fun r24 => (zcall w d 131 [zA 11 8 169, zA 6 1 r24.1, zI x2, zI x3, zI x4, zI x5] r24.2).bind fun r25 => if x6 = 0 then (zcall w d 125 [zA 11 8 169] r25.2).bind fun r26 => some (r26.1, r26.2) else if x6 = 1 then (zcall w d 126 [zA 11 8 169] r25.2).bind fun r27 => some (r27.1, r27.2) else (zcall w d 127 [zA 11 8 169] r25.2).bind fun r28 => some (r28.1, r28.2) :=
  (zcall_eq rfl).trans (zunr_eq w zc_X11_ray [] (d + 1) 170 rfl 109 _ _ _ _).symm
set_option maxRecDepth 100000 in
theorem eX11_skin (w : zW) (d : Nat) (x1 : Int) (σ : zMem) : zcall w (d + 1) 171 [zA 12 16 1, zI x1] σ =
  (zcall w d 197 [zA 12 16 1, zI x1] σ).bind fun r1 => if r1.1 = 0 then (zcall w d 194 [zA 12 16 1, zI (-62)] r1.2).bind fun r2 => some (r2.1, r2.2) else (zcall w d 198 [zA 12 16 1, zI x1] r1.2).bind fun r3 => (zcall w d 132 [zA 11 8 169, zA 6 1 r3.1] r3.2).bind fun r4 => some (r4.1, r4.2) :=
  (zcall_eq rfl).trans (zunr_eq w zc_X11_skin [] (d + 1) 171 rfl 65 _ _ _ _).symm
set_option maxRecDepth 100000 in
theorem eX11_pieces (w : zW) (d : Nat) (x1 x2 : Int) (σ : zMem) : zcall w (d + 1) 172 [zA 12 16 1, zI x1, zI x2] σ =
  (zcall w d 197 [zA 12 16 1, zI x1] σ).bind fun r1 => if r1.1 = 0 then (zcall w d 194 [zA 12 16 1, zI (-62)] r1.2).bind fun r2 => some (r2.1, r2.2) else (zcall w d 200 [zI x2, zI 0, zI 2] r1.2).bind fun r3 => if r3.1 = 0 then (zcall w d 194 [zA 12 16 1, zI (-62)] r3.2).bind fun r4 => some (r4.1, r4.2) else (zcall w d 198 [zA 12 16 1, zI x1] r3.2).bind fun r5 => (zcall w d 135 [zA 11 8 169, zA 6 1 r5.1] r5.2).bind fun r6 => if x2 = 0 then (zcall w d 128 [zA 11 8 169] r6.2).bind fun r7 => some (r7.1, r7.2) else if x2 = 1 then (zcall w d 129 [zA 11 8 169] r6.2).bind fun r8 => some (r8.1, r8.2) else (zcall w d 130 [zA 11 8 169] r6.2).bind fun r9 => some (r9.1, r9.2) :=
  (zcall_eq rfl).trans (zunr_eq w zc_X11_pieces [] (d + 1) 172 rfl 83 _ _ _ _).symm
set_option maxRecDepth 100000 in
theorem eX11_even (w : zW) (d : Nat) (x1 x2 : Int) (σ : zMem) : zcall w (d + 1) 173 [zA 12 16 1, zI x1, zI x2] σ =
  (zcall w d 197 [zA 12 16 1, zI x1] σ).bind fun r1 => if r1.1 = 0 then (zcall w d 194 [zA 12 16 1, zI (-62)] r1.2).bind fun r2 => some (r2.1, r2.2) else (zcall w d 203 [zI x2] r1.2).bind fun r3 => if r3.1 = 0 then (zcall w d 194 [zA 12 16 1, zI (-62)] r3.2).bind fun r4 => some (r4.1, r4.2) else (zcall w d 198 [zA 12 16 1, zI x1] r3.2).bind fun r5 => zden w (d + 1) 173 17 [zA 12 16 1, zI x1, zI x2, zA 6 1 r5.1, zI 0, zU] [] r5.2 :=
  (zcall_eq rfl).trans (zunr_eq w zc_X11_even [17] (d + 1) 173 rfl 94 _ _ _ _).symm
set_option maxRecDepth 100000 in
theorem hX11_even_17 (w : zW) (d : Nat) (x2 a3 x4 : Int) (v0 v1 v5 : zV) (σ : zMem) : zden w (d + 1) 173 17 [v0, v1, zI x2, zA 6 1 a3, zI x4, v5] [] σ =
  if x4 < 4096 then (zcall w d 209 [zI x4, zI x2] σ).bind fun r1 => (zcall w d 211 [zI x4, zI x2, zI (zar 1 15 (zar 2 2 r1.1))] r1.2).bind fun r2 => (zcall w d 49 [zA 6 1 a3, zI x4] r2.2).bind fun r3 => (zcall w d 49 [zA 6 1 a3, zI r2.1] r3.2).bind fun r4 => if r3.1 = r4.1 then zden w (d + 1) 173 17 [v0, v1, zI x2, zA 6 1 a3, zI (zar 0 x4 1), zI r2.1] [] r4.2 else some (0, r4.2) else some (1, σ) :=
  (zunr_eq w zc_X11_even [17] (d + 1) 173 rfl 94 _ _ _ _).symm
set_option maxRecDepth 100000 in
theorem eX11_both (w : zW) (d : Nat) (x1 x2 : Int) (σ : zMem) : zcall w (d + 1) 174 [zA 12 16 1, zI x1, zI x2] σ =
  (zcall w d 197 [zA 12 16 1, zI x1] σ).bind fun r1 => if r1.1 = 0 then (zcall w d 194 [zA 12 16 1, zI (-62)] r1.2).bind fun r2 => some (r2.1, r2.2) else (zcall w d 197 [zA 12 16 1, zI x2] r1.2).bind fun r3 => if r3.1 = 0 then (zcall w d 194 [zA 12 16 1, zI (-62)] r3.2).bind fun r4 => some (r4.1, r4.2) else (zcall w d 198 [zA 12 16 1, zI x1] r3.2).bind fun r5 => (zcall w d 198 [zA 12 16 1, zI x2] r5.2).bind fun r6 => (zcall w d 58 [zA 6 1 r5.1, zA 6 1 r6.1] r6.2).bind fun r7 => some (r7.1, r7.2) :=
  (zcall_eq rfl).trans (zunr_eq w zc_X11_both [] (d + 1) 174 rfl 70 _ _ _ _).symm
set_option maxRecDepth 100000 in
theorem eX11_differ (w : zW) (d : Nat) (x1 x2 : Int) (σ : zMem) : zcall w (d + 1) 175 [zA 12 16 1, zI x1, zI x2] σ =
  (zcall w d 197 [zA 12 16 1, zI x1] σ).bind fun r1 => if r1.1 = 0 then (zcall w d 194 [zA 12 16 1, zI (-62)] r1.2).bind fun r2 => some (r2.1, r2.2) else (zcall w d 197 [zA 12 16 1, zI x2] r1.2).bind fun r3 => if r3.1 = 0 then (zcall w d 194 [zA 12 16 1, zI (-62)] r3.2).bind fun r4 => some (r4.1, r4.2) else (zcall w d 198 [zA 12 16 1, zI x1] r3.2).bind fun r5 => (zcall w d 198 [zA 12 16 1, zI x2] r5.2).bind fun r6 => zden w (d + 1) 175 22 [zA 12 16 1, zI x1, zI x2, zA 6 1 r5.1, zA 6 1 r6.1, zI 0] [] r6.2 :=
  (zcall_eq rfl).trans (zunr_eq w zc_X11_differ [22] (d + 1) 175 rfl 88 _ _ _ _).symm
set_option maxRecDepth 100000 in
theorem hX11_differ_22 (w : zW) (d : Nat) (a3 a4 x5 : Int) (v0 v1 v2 : zV) (σ : zMem) : zden w (d + 1) 175 22 [v0, v1, v2, zA 6 1 a3, zA 6 1 a4, zI x5] [] σ =
  if x5 < 4096 then (zcall w d 49 [zA 6 1 a3, zI x5] σ).bind fun r1 => (zcall w d 49 [zA 6 1 a4, zI x5] r1.2).bind fun r2 => if r1.1 = r2.1 then zden w (d + 1) 175 22 [v0, v1, v2, zA 6 1 a3, zA 6 1 a4, zI (zar 0 x5 1)] [] r2.2 else some (x5, r2.2) else some (-1, σ) :=
  (zunr_eq w zc_X11_differ [22] (d + 1) 175 rfl 88 _ _ _ _).symm
set_option maxRecDepth 100000 in
theorem eX11_apart (w : zW) (d : Nat) (x1 x2 x3 : Int) (σ : zMem) : zcall w (d + 1) 176 [zA 12 16 1, zI x1, zI x2, zI x3] σ =
  (zcall w d 197 [zA 12 16 1, zI x1] σ).bind fun r1 => if r1.1 = 0 then (zcall w d 194 [zA 12 16 1, zI (-62)] r1.2).bind fun r2 => some (r2.1, r2.2) else (zcall w d 197 [zA 12 16 1, zI x2] r1.2).bind fun r3 => if r3.1 = 0 then (zcall w d 194 [zA 12 16 1, zI (-62)] r3.2).bind fun r4 => some (r4.1, r4.2) else (zcall w d 203 [zI x3] r3.2).bind fun r5 => if r5.1 = 0 then (zcall w d 194 [zA 12 16 1, zI (-62)] r5.2).bind fun r6 => some (r6.1, r6.2) else (zcall w d 198 [zA 12 16 1, zI x1] r5.2).bind fun r7 => (zcall w d 198 [zA 12 16 1, zI x2] r7.2).bind fun r8 => zden w (d + 1) 176 25 [zA 12 16 1, zI x1, zI x2, zI x3, zA 6 1 r7.1, zA 6 1 r8.1, zI 0] [] r8.2 :=
  (zcall_eq rfl).trans (zunr_eq w zc_X11_apart [25] (d + 1) 176 rfl 90 _ _ _ _).symm
set_option maxRecDepth 100000 in
theorem hX11_apart_25 (w : zW) (d : Nat) (x3 a4 a5 x6 : Int) (v0 v1 v2 : zV) (σ : zMem) : zden w (d + 1) 176 25 [v0, v1, v2, zI x3, zA 6 1 a4, zA 6 1 a5, zI x6] [] σ =
  if x6 < 16 then (zcall w d 177 [zA 6 1 a4, zA 6 1 a5, zI x3, zI x6] σ).bind fun r1 => if r1.1 = 0 then some (x6, r1.2) else zden w (d + 1) 176 25 [v0, v1, v2, zI x3, zA 6 1 a4, zA 6 1 a5, zI (zar 0 x6 1)] [] r1.2 else some (16, σ) :=
  (zunr_eq w zc_X11_apart [25] (d + 1) 176 rfl 90 _ _ _ _).symm
set_option maxRecDepth 100000 in
theorem eX11_meets (w : zW) (d : Nat) (a1 a2 x3 x4 : Int) (σ : zMem) : zcall w (d + 1) 177 [zA 6 1 a1, zA 6 1 a2, zI x3, zI x4] σ =
  zden w (d + 1) 177 2 [zA 6 1 a1, zA 6 1 a2, zI x3, zI x4, zI 0] [] σ :=
  (zcall_eq rfl).trans (zunr_eq w zc_X11_meets [2] (d + 1) 177 rfl 72 _ _ _ _).symm
set_option maxRecDepth 100000 in
theorem hX11_meets_2 (w : zW) (d : Nat) (a1 a2 x3 x4 : Int) (σ : zMem) : zden w (d + 1) 177 2 [zA 6 1 a1, zA 6 1 a2, zI x3, zI x4, zI x4] [] σ =
  if x4 < 4096 then (zcall w d 49 [zA 6 1 a1, zI x4] σ).bind fun r1 => if r1.1 = 0 then zden w (d + 1) 177 2 [zA 6 1 a1, zA 6 1 a2, zI x3, zI x4, zI (zar 0 x4 1)] [] r1.2 else (zcall w d 211 [zI x4, zI x3, zI x4] r1.2).bind fun r2 => (zcall w d 49 [zA 6 1 a2, zI r2.1] r2.2).bind fun r3 => if r3.1 = 0 then zden w (d + 1) 177 2 [zA 6 1 a1, zA 6 1 a2, zI x3, zI x4, zI (zar 0 x4 1)] [] r3.2 else some (1, r3.2) else some (0, σ) :=
  (zunr_eq w zc_X11_meets [2] (d + 1) 177 rfl 72 _ _ _ _).symm
set_option maxRecDepth 100000 in
theorem eX11_enough (w : zW) (d : Nat) (x1 x2 x3 x4 : Int) (σ : zMem) : zcall w (d + 1) 178 [zA 12 16 1, zI x1, zI x2, zI x3, zI x4] σ =
  (zcall w d 197 [zA 12 16 1, zI x1] σ).bind fun r1 => if r1.1 = 0 then (zcall w d 194 [zA 12 16 1, zI (-62)] r1.2).bind fun r2 => some (r2.1, r2.2) else (zcall w d 197 [zA 12 16 1, zI x2] r1.2).bind fun r3 => if r3.1 = 0 then (zcall w d 194 [zA 12 16 1, zI (-62)] r3.2).bind fun r4 => some (r4.1, r4.2) else (zcall w d 200 [zI x3, zI 1, zI 9] r3.2).bind fun r5 => if r5.1 = 0 then (zcall w d 194 [zA 12 16 1, zI (-62)] r5.2).bind fun r6 => some (r6.1, r6.2) else (zcall w d 200 [zI x4, zI 0, zI 4096] r5.2).bind fun r7 => if r7.1 = 0 then (zcall w d 194 [zA 12 16 1, zI (-62)] r7.2).bind fun r8 => some (r8.1, r8.2) else (zcall w d 119 [zA 10 8 2, zI 11, zI x1, zI x2] r7.2).bind fun r9 => if r9.1 = 0 then (zcall w d 179 [zA 12 16 1, zI x1, zI x2, zI x3] r9.2).bind fun r10 => zden w (d + 1) 178 40 [zA 12 16 1, zI x1, zI x2, zI x3, zI x4, zI 0] [] r10.2 else (zcall w d 194 [zA 12 16 1, zI (-65)] r9.2).bind fun r11 => some (r11.1, r11.2) :=
  (zcall_eq rfl).trans (zunr_eq w zc_X11_enough [40] (d + 1) 178 rfl 110 _ _ _ _).symm
set_option maxRecDepth 100000 in
theorem hX11_enough_40 (w : zW) (d : Nat) (x3 x4 x5 : Int) (v1 v2 : zV) (σ : zMem) : zden w (d + 1) 178 40 [zA 12 16 1, v1, v2, zI x3, zI x4, zI x5] [] σ =
  if x3 < x5 then some (-1, σ) else if x5 < 10 then if (0 : Int) ≤ x5 ∧ x5 < 10 then if (σ 207 x5) < x4 then zden w (d + 1) 178 40 [zA 12 16 1, v1, v2, zI x3, zI x4, zI (zar 0 x5 1)] [] σ else some (x5, σ) else none else some (-1, σ) :=
  (zunr_eq w zc_X11_enough [40] (d + 1) 178 rfl 110 _ _ _ _).symm
set_option maxRecDepth 100000 in
theorem eX11_countBlends (w : zW) (d : Nat) (x1 x2 x3 : Int) (σ : zMem) : zcall w (d + 1) 179 [zA 12 16 1, zI x1, zI x2, zI x3] σ =
  zden w (d + 1) 179 2 [zA 12 16 1, zI x1, zI x2, zI x3, zI 0, zU, zU, zU, zU, zU, zU, zU, zU] [] σ :=
  (zcall_eq rfl).trans (zunr_eq w zc_X11_countBlends [2, 16, 47] (d + 1) 179 rfl 132 _ _ _ _).symm
set_option maxRecDepth 100000 in
theorem hX11_countBlends_2 (w : zW) (d : Nat) (x1 x2 x3 x4 : Int) (σ : zMem) : zden w (d + 1) 179 2 [zA 12 16 1, zI x1, zI x2, zI x3, zI x4, zU, zU, zU, zU, zU, zU, zU, zU] [] σ =
  if x4 < 10 then if (0 : Int) ≤ x4 ∧ x4 < 10 then zden w (d + 1) 179 2 [zA 12 16 1, zI x1, zI x2, zI x3, zI (zar 0 x4 1), zU, zU, zU, zU, zU, zU, zU, zU] [] (zup σ 207 x4 0) else none else zden w (d + 1) 179 16 [zA 12 16 1, zI x1, zI x2, zI x3, zI 0, zU, zU, zU, zU, zU, zU, zU, zU] [] σ :=
  (zunr_eq w zc_X11_countBlends [2, 16, 47] (d + 1) 179 rfl 132 _ _ _ _).symm
set_option maxRecDepth 100000 in
theorem hX11_countBlends_16 (w : zW) (d : Nat) (x1 x2 x3 x4 : Int) (v5 v6 v8 v10 v12 : zV) (σ : zMem) : zden w (d + 1) 179 16 [zA 12 16 1, zI x1, zI x2, zI x3, zI x4, v5, v6, zU, v8, zU, v10, zU, v12] [] σ =
  if x4 < 4096 then (zcall w d 199 [zA 12 16 1, zI x1, zI x4] σ).bind fun r1 => (zcall w d 11 [zA 2 2 r1.1] r1.2).bind fun r2 => (zcall w d 12 [zA 2 2 r1.1] r2.2).bind fun r3 => (zcall w d 199 [zA 12 16 1, zI x2, zI x4] r3.2).bind fun r4 => (zcall w d 12 [zA 2 2 r4.1] r4.2).bind fun r5 => (zcall w d 11 [zA 2 2 r4.1] r5.2).bind fun r6 => zden w (d + 1) 179 47 [zA 12 16 1, zI x1, zI x2, zI x3, zI x4, zA 2 2 r4.1, zJ (zar 14 r2.1 r5.1), zU, zJ r3.1, zU, zJ (zar 14 r6.1 r3.1), zU, zI 0] [] r6.2 else some (0, σ) :=
  (zunr_eq w zc_X11_countBlends [2, 16, 47] (d + 1) 179 rfl 132 _ _ _ _).symm
set_option maxRecDepth 100000 in
theorem hX11_countBlends_47 (w : zW) (d : Nat) (x1 x2 x3 x4 x6 x10 x12 : Int) (v5 v8 : zV) (σ : zMem) : zden w (d + 1) 179 47 [zA 12 16 1, zI x1, zI x2, zI x3, zI x4, v5, zJ x6, zU, v8, zU, zJ x10, zU, zI x12] [] σ =
  if x3 < x12 then zden w (d + 1) 179 16 [zA 12 16 1, zI x1, zI x2, zI x3, zI (zar 0 x4 1), v5, zJ x6, zU, v8, zU, zJ x10, zU, zI x12] [] σ else if x12 < 10 then if 0 < (zar 22 (zar 12 (zar 14 x6 (zar 1 x3 x12)) (zar 14 x10 x12)) 0) then zden w (d + 1) 179 47 [zA 12 16 1, zI x1, zI x2, zI x3, zI x4, v5, zJ x6, zU, v8, zU, zJ x10, zU, zI (zar 0 x12 1)] [] σ else if (0 : Int) ≤ x12 ∧ x12 < 10 then if (0 : Int) ≤ x12 ∧ x12 < 10 then zden w (d + 1) 179 47 [zA 12 16 1, zI x1, zI x2, zI x3, zI x4, v5, zJ x6, zU, v8, zU, zJ x10, zU, zI (zar 0 x12 1)] [] (zup σ 207 x12 (zar 0 (σ 207 x12) 1)) else none else none else zden w (d + 1) 179 16 [zA 12 16 1, zI x1, zI x2, zI x3, zI (zar 0 x4 1), v5, zJ x6, zU, v8, zU, zJ x10, zU, zI x12] [] σ :=
  (zunr_eq w zc_X11_countBlends [2, 16, 47] (d + 1) 179 rfl 132 _ _ _ _).symm
set_option maxRecDepth 100000 in
theorem eX11_kinds (w : zW) (d : Nat) (x1 x2 x3 x4 : Int) (σ : zMem) : zcall w (d + 1) 180 [zA 12 16 1, zI x1, zI x2, zI x3, zI x4] σ =
  (zcall w d 197 [zA 12 16 1, zI x1] σ).bind fun r1 => if r1.1 = 0 then (zcall w d 194 [zA 12 16 1, zI (-62)] r1.2).bind fun r2 => some (r2.1, r2.2) else (zcall w d 197 [zA 12 16 1, zI x2] r1.2).bind fun r3 => if r3.1 = 0 then (zcall w d 194 [zA 12 16 1, zI (-62)] r3.2).bind fun r4 => some (r4.1, r4.2) else (zcall w d 201 [zI x3] r3.2).bind fun r5 => if r5.1 = 0 then (zcall w d 194 [zA 12 16 1, zI (-62)] r5.2).bind fun r6 => some (r6.1, r6.2) else (zcall w d 200 [zI x4, zI 0, zI 20] r5.2).bind fun r7 => if r7.1 = 0 then (zcall w d 194 [zA 12 16 1, zI (-62)] r7.2).bind fun r8 => some (r8.1, r8.2) else (zcall w d 196 [zA 12 16 1, zI x3, zI x4] r7.2).bind fun r9 => if r9.1 = 0 then zden w (d + 1) 180 35 [zA 12 16 1, zI x1, zI x2, zI x3, zI x4, zI r9.1, zI 0, zI 8] [] r9.2 else (zcall w d 194 [zA 12 16 1, zI r9.1] r9.2).bind fun r10 => some (r10.1, r10.2) :=
  (zcall_eq rfl).trans (zunr_eq w zc_X11_kinds [35] (d + 1) 180 rfl 106 _ _ _ _).symm
set_option maxRecDepth 100000 in
theorem hX11_kinds_35 (w : zW) (d : Nat) (x1 x2 x3 x4 x6 x7 : Int) (v5 : zV) (σ : zMem) : zden w (d + 1) 180 35 [zA 12 16 1, zI x1, zI x2, zI x3, zI x4, v5, zI x6, zI x7] [] σ =
  if 10 < x7 then some (x6, σ) else (zcall w d 181 [zA 12 16 1, zI x7, zI x1, zI x2, zI x3, zI x4] σ).bind fun r1 => if r1.1 = 0 then zden w (d + 1) 180 35 [zA 12 16 1, zI x1, zI x2, zI x3, zI x4, v5, zI x6, zI (zar 0 x7 1)] [] r1.2 else zden w (d + 1) 180 35 [zA 12 16 1, zI x1, zI x2, zI x3, zI x4, (zlng 0 v5), zI (zar 7 x6 (zar 9 1 x7)), zI (zar 0 x7 1)] [] r1.2 :=
  (zunr_eq w zc_X11_kinds [35] (d + 1) 180 rfl 106 _ _ _ _).symm
set_option maxRecDepth 100000 in
theorem eX11_isSoOfPair (w : zW) (d : Nat) (x1 x2 x3 x4 x5 : Int) (σ : zMem) : zcall w (d + 1) 181 [zA 12 16 1, zI x1, zI x2, zI x3, zI x4, zI x5] σ =
  zden w (d + 1) 181 2 [zA 12 16 1, zI x1, zI x2, zI x3, zI x4, zI x5, zI 0, zU] [] σ :=
  (zcall_eq rfl).trans (zunr_eq w zc_X11_isSoOfPair [2] (d + 1) 181 rfl 92 _ _ _ _).symm
set_option maxRecDepth 100000 in
theorem hX11_isSoOfPair_2 (w : zW) (d : Nat) (x1 x2 x3 x4 x5 x6 : Int) (v7 : zV) (σ : zMem) : zden w (d + 1) 181 2 [zA 12 16 1, zI x1, zI x2, zI x3, zI x4, zI x5, zI x6, v7] [] σ =
  if x6 < x5 then (zcall w d 88 [zA 8 3 74, zI x4, zI (zar 0 (zar 2 2 x6) 1)] σ).bind fun r1 => if (zar 22 r1.1 1) = 0 then (zcall w d 88 [zA 8 3 74, zI x4, zI (zar 2 2 x6)] r1.2).bind fun r2 => (zcall w d 182 [zA 12 16 1, zI x1, zI x2, zI x3, zI (zar 23 r2.1 0)] r2.2).bind fun r3 => if r3.1 = 1 then zden w (d + 1) 181 2 [zA 12 16 1, zI x1, zI x2, zI x3, zI x4, zI x5, zI (zar 0 x6 1), zI 1] [] r3.2 else some (0, r3.2) else (zcall w d 88 [zA 8 3 74, zI x4, zI (zar 2 2 x6)] r1.2).bind fun r4 => (zcall w d 182 [zA 12 16 1, zI x1, zI x2, zI x3, zI (zar 23 r4.1 0)] r4.2).bind fun r5 => if r5.1 = 0 then zden w (d + 1) 181 2 [zA 12 16 1, zI x1, zI x2, zI x3, zI x4, zI x5, zI (zar 0 x6 1), zI 0] [] r5.2 else some (0, r5.2) else some (1, σ) :=
  (zunr_eq w zc_X11_isSoOfPair [2] (d + 1) 181 rfl 92 _ _ _ _).symm
set_option maxRecDepth 100000 in
theorem eX11_isInPair (w : zW) (d : Nat) (x1 x2 x3 x4 : Int) (σ : zMem) : zcall w (d + 1) 182 [zA 12 16 1, zI x1, zI x2, zI x3, zI x4] σ =
  (zcall w d 199 [zA 12 16 1, zI x2, zI x4] σ).bind fun r1 => (zcall w d 13 [zA 2 2 r1.1] r1.2).bind fun r2 => if r2.1 = 0 then (zcall w d 199 [zA 12 16 1, zI x3, zI x4] r2.2).bind fun r3 => if x1 = 8 then some (1, r3.2) else if x1 = 9 then (zcall w d 13 [zA 2 2 r3.1] r3.2).bind fun r4 => if r4.1 = 0 then some (1, r4.2) else some (0, r4.2) else (zcall w d 14 [zA 2 2 r3.1] r3.2).bind fun r5 => if r5.1 = 0 then some (1, r5.2) else some (0, r5.2) else (zcall w d 199 [zA 12 16 1, zI x3, zI x4] r2.2).bind fun r6 => if x1 = 8 then (zcall w d 13 [zA 2 2 r6.1] r6.2).bind fun r7 => if r7.1 = 0 then some (1, r7.2) else some (0, r7.2) else if x1 = 9 then some (0, r6.2) else some (0, r6.2) :=
  (zcall_eq rfl).trans (zunr_eq w zc_X11_isInPair [] (d + 1) 182 rfl 94 _ _ _ _).symm
set_option maxRecDepth 100000 in
theorem eX11_judge (w : zW) (d : Nat) (x1 x2 x3 : Int) (σ : zMem) : zcall w (d + 1) 183 [zA 12 16 1, zI x1, zI x2, zI x3] σ =
  (zcall w d 197 [zA 12 16 1, zI x1] σ).bind fun r1 => if r1.1 = 0 then (zcall w d 194 [zA 12 16 1, zI (-62)] r1.2).bind fun r2 => some (r2.1, r2.2) else (zcall w d 201 [zI x2] r1.2).bind fun r3 => if r3.1 = 0 then (zcall w d 194 [zA 12 16 1, zI (-62)] r3.2).bind fun r4 => some (r4.1, r4.2) else (zcall w d 200 [zI x3, zI 0, zI 20] r3.2).bind fun r5 => if r5.1 = 0 then (zcall w d 194 [zA 12 16 1, zI (-62)] r5.2).bind fun r6 => some (r6.1, r6.2) else (zcall w d 196 [zA 12 16 1, zI x2, zI x3] r5.2).bind fun r7 => if r7.1 = 0 then zden w (d + 1) 183 29 [zA 12 16 1, zI x1, zI x2, zI x3, zI r7.1, zI 0, zU] [] r7.2 else (zcall w d 194 [zA 12 16 1, zI r7.1] r7.2).bind fun r8 => some (r8.1, r8.2) :=
  (zcall_eq rfl).trans (zunr_eq w zc_X11_judge [29] (d + 1) 183 rfl 118 _ _ _ _).symm
set_option maxRecDepth 100000 in
theorem hX11_judge_29 (w : zW) (d : Nat) (x1 x2 x3 x5 : Int) (v4 v6 : zV) (σ : zMem) : zden w (d + 1) 183 29 [zA 12 16 1, zI x1, zI x2, zI x3, v4, zI x5, v6] [] σ =
  if x5 < x3 then (zcall w d 88 [zA 8 3 74, zI x2, zI (zar 0 (zar 2 2 x5) 1)] σ).bind fun r1 => if (zar 22 r1.1 1) = 0 then (zcall w d 198 [zA 12 16 1, zI x1] r1.2).bind fun r2 => (zcall w d 88 [zA 8 3 74, zI x2, zI (zar 2 2 x5)] r2.2).bind fun r3 => (zcall w d 49 [zA 6 1 r2.1, zI (zar 23 r3.1 0)] r3.2).bind fun r4 => if r4.1 = 1 then zden w (d + 1) 183 29 [zA 12 16 1, zI x1, zI x2, zI x3, (zlng 0 v4), zI (zar 0 x5 1), zI 1] [] r4.2 else some (x5, r4.2) else (zcall w d 198 [zA 12 16 1, zI x1] r1.2).bind fun r5 => (zcall w d 88 [zA 8 3 74, zI x2, zI (zar 2 2 x5)] r5.2).bind fun r6 => (zcall w d 49 [zA 6 1 r5.1, zI (zar 23 r6.1 0)] r6.2).bind fun r7 => if r7.1 = 0 then zden w (d + 1) 183 29 [zA 12 16 1, zI x1, zI x2, zI x3, (zlng 0 v4), zI (zar 0 x5 1), zI 0] [] r7.2 else some (x5, r7.2) else some (-1, σ) :=
  (zunr_eq w zc_X11_judge [29] (d + 1) 183 rfl 118 _ _ _ _).symm
set_option maxRecDepth 100000 in
theorem eX11_carve (w : zW) (d : Nat) (x1 x2 : Int) (σ : zMem) : zcall w (d + 1) 184 [zA 12 16 1, zI x1, zI x2] σ =
  (zcall w d 197 [zA 12 16 1, zI x1] σ).bind fun r1 => if r1.1 = 0 then (zcall w d 194 [zA 12 16 1, zI (-62)] r1.2).bind fun r2 => some (r2.1, r2.2) else (zcall w d 200 [zI x2, zI 0, zI 3] r1.2).bind fun r3 => if r3.1 = 0 then (zcall w d 194 [zA 12 16 1, zI (-62)] r3.2).bind fun r4 => some (r4.1, r4.2) else (zcall w d 198 [zA 12 16 1, zI x1] r3.2).bind fun r5 => (zcall w d 7 [zA 1 6 18, zA 6 1 r5.1, zI x2] r5.2).bind fun r6 => some (r6.1, r6.2) :=
  (zcall_eq rfl).trans (zunr_eq w zc_X11_carve [] (d + 1) 184 rfl 71 _ _ _ _).symm
set_option maxRecDepth 100000 in
theorem eX11_undo (w : zW) (d : Nat) (σ : zMem) : zcall w (d + 1) 185 [zA 12 16 1] σ =
  (zcall w d 2 [zA 1 6 18] σ).bind fun r1 => if r1.1 < 1 then (zcall w d 194 [zA 12 16 1, zI (-65)] r1.2).bind fun r2 => some (r2.1, r2.2) else (zcall w d 8 [zA 1 6 18] r1.2).bind fun r3 => (zcall w d 2 [zA 1 6 18] r3.2).bind fun r4 => some (r4.1, r4.2) :=
  (zcall_eq rfl).trans (zunr_eq w zc_X11_undo [] (d + 1) 185 rfl 66 _ _ _ _).symm
set_option maxRecDepth 100000 in
theorem eX11_block (w : zW) (d : Nat) (x1 : Int) (σ : zMem) : zcall w (d + 1) 186 [zA 12 16 1, zI x1] σ =
  if x1 = 0 then (zcall w d 1 [zA 1 6 18] σ).bind fun r1 => (zcall w d 57 [zA 6 1 r1.1] r1.2).bind fun r2 => some (r2.1, r2.2) else if x1 = 1 then (zcall w d 1 [zA 1 6 18] σ).bind fun r3 => (zcall w d 132 [zA 11 8 169, zA 6 1 r3.1] r3.2).bind fun r4 => some (r4.1, r4.2) else if x1 = 2 then (zcall w d 1 [zA 1 6 18] σ).bind fun r5 => (zcall w d 135 [zA 11 8 169, zA 6 1 r5.1] r5.2).bind fun r6 => (zcall w d 128 [zA 11 8 169] r6.2).bind fun r7 => some (r7.1, r7.2) else (zcall w d 194 [zA 12 16 1, zI (-62)] σ).bind fun r8 => some (r8.1, r8.2) :=
  (zcall_eq rfl).trans (zunr_eq w zc_X11_block [] (d + 1) 186 rfl 78 _ _ _ _).symm
set_option maxRecDepth 100000 in
theorem eX11_has (w : zW) (d : Nat) (x1 : Int) (σ : zMem) : zcall w (d + 1) 187 [zA 12 16 1, zI x1] σ =
  (zcall w d 202 [zI x1] σ).bind fun r1 => if r1.1 = 0 then (zcall w d 194 [zA 12 16 1, zI (-62)] r1.2).bind fun r2 => some (r2.1, r2.2) else (zcall w d 1 [zA 1 6 18] r1.2).bind fun r3 => (zcall w d 49 [zA 6 1 r3.1, zI x1] r3.2).bind fun r4 => if r4.1 = 0 then some (0, r4.2) else some (1, r4.2) :=
  (zcall_eq rfl).trans (zunr_eq w zc_X11_has [] (d + 1) 187 rfl 67 _ _ _ _).symm
set_option maxRecDepth 100000 in
theorem eX11_off (w : zW) (d : Nat) (x1 : Int) (σ : zMem) : zcall w (d + 1) 188 [zA 12 16 1, zI x1] σ =
  (zcall w d 197 [zA 12 16 1, zI x1] σ).bind fun r1 => if r1.1 = 0 then (zcall w d 194 [zA 12 16 1, zI (-62)] r1.2).bind fun r2 => some (r2.1, r2.2) else (zcall w d 198 [zA 12 16 1, zI x1] r1.2).bind fun r3 => (zcall w d 1 [zA 1 6 18] r3.2).bind fun r4 => (zcall w d 59 [zA 6 1 r3.1, zA 6 1 r4.1] r4.2).bind fun r5 => some (r5.1, r5.2) :=
  (zcall_eq rfl).trans (zunr_eq w zc_X11_off [] (d + 1) 188 rfl 66 _ _ _ _).symm
set_option maxRecDepth 100000 in
theorem eX11_days (w : zW) (d : Nat) (x1 : Int) (σ : zMem) : zcall w (d + 1) 189 [zA 12 16 1, zI x1] σ =
  (zcall w d 200 [zI x1, zI 1, zI 60] σ).bind fun r1 => if r1.1 = 0 then (zcall w d 194 [zA 12 16 1, zI (-62)] r1.2).bind fun r2 => some (r2.1, r2.2) else zden w (d + 1) 189 11 [zA 12 16 1, zI x1, zI 0, zU, zU, zU, zU] [] r1.2 :=
  (zcall_eq rfl).trans (zunr_eq w zc_X11_days [11] (d + 1) 189 rfl 108 _ _ _ _).symm
set_option maxRecDepth 100000 in
theorem hX11_days_11 (w : zW) (d : Nat) (x1 x2 : Int) (v3 v4 v5 v6 : zV) (σ : zMem) : zden w (d + 1) 189 11 [zA 12 16 1, zI x1, zI x2, v3, v4, v5, v6] [] σ =
  if x2 < x1 then (zcall w d 6 [zA 1 6 18, zI 16] σ).bind fun r1 => (zcall w d 6 [zA 1 6 18, zI 16] r1.2).bind fun r2 => (zcall w d 6 [zA 1 6 18, zI 16] r2.2).bind fun r3 => (zcall w d 6 [zA 1 6 18, zI 6] r3.2).bind fun r4 => (zcall w d 54 [zA 6 1 204, zI r1.1, zI r2.1, zI r3.1, zI r4.1] r4.2).bind fun r5 => (zcall w d 6 [zA 1 6 18, zI 4] r5.2).bind fun r6 => (zcall w d 7 [zA 1 6 18, zA 6 1 204, zI r6.1] r6.2).bind fun r7 => zden w (d + 1) 189 11 [zA 12 16 1, zI x1, zI (zar 0 x2 1), zI r1.1, zI r2.1, zI r3.1, zI r4.1] [] r7.2 else (zcall w d 1 [zA 1 6 18] σ).bind fun r8 => (zcall w d 57 [zA 6 1 r8.1] r8.2).bind fun r9 => some (r9.1, r9.2) :=
  (zunr_eq w zc_X11_days [11] (d + 1) 189 rfl 108 _ _ _ _).symm
set_option maxRecDepth 100000 in
theorem eX11_seed (w : zW) (d : Nat) (x1 : Int) (σ : zMem) : zcall w (d + 1) 190 [zA 12 16 1, zI x1] σ =
  (zcall w d 4 [zA 1 6 18] σ).bind fun r1 => (zcall w d 5 [zA 1 6 18, zI x1] r1.2).bind fun r2 => some (r1.1, r2.2) :=
  (zcall_eq rfl).trans (zunr_eq w zc_X11_seed [] (d + 1) 190 rfl 60 _ _ _ _).symm
set_option maxRecDepth 100000 in
theorem eX11_image (w : zW) (d : Nat) (σ : zMem) : zcall w (d + 1) 191 [zA 12 16 1] σ =
  (zcall w d 123 [zA 10 8 10, zA 10 8 2] σ).bind fun r1 => (zcall w d 9 [zA 1 6 46, zA 1 6 18] r1.2).bind fun r2 => (zcall w d 110 [zA 10 8 2] (zup r2.2 1 14 1)).bind fun r3 => some (1, zup r3.2 1 15 r3.1) :=
  (zcall_eq rfl).trans (zunr_eq w zc_X11_image [] (d + 1) 191 rfl 70 _ _ _ _).symm
set_option maxRecDepth 100000 in
theorem eX11_back (w : zW) (d : Nat) (σ : zMem) : zcall w (d + 1) 192 [zA 12 16 1] σ =
  if (σ 1 14) = 0 then (zcall w d 194 [zA 12 16 1, zI (-65)] σ).bind fun r1 => some (r1.1, r1.2) else (zcall w d 123 [zA 10 8 2, zA 10 8 10] σ).bind fun r2 => (zcall w d 9 [zA 1 6 18, zA 1 6 46] r2.2).bind fun r3 => (zcall w d 36 [zA 4 5 85, zI (r3.2 1 15)] r3.2).bind fun r4 => (zcall w d 110 [zA 10 8 2] r4.2).bind fun r5 => (zcall w d 110 [zA 10 8 2] (zup r5.2 1 15 r5.1)).bind fun r6 => (zcall w d 86 [zA 8 3 74, zI r6.1] r6.2).bind fun r7 => some (1, r7.2) :=
  (zcall_eq rfl).trans (zunr_eq w zc_X11_back [] (d + 1) 192 rfl 85 _ _ _ _).symm
set_option maxRecDepth 100000 in
theorem eX11_status (w : zW) (d : Nat) (x1 : Int) (σ : zMem) : zcall w (d + 1) 193 [zA 12 16 1, zI x1] σ =
  if x1 = 0 then (zcall w d 110 [zA 10 8 2] σ).bind fun r1 => some (r1.1, r1.2) else if x1 = 1 then (zcall w d 2 [zA 1 6 18] σ).bind fun r2 => some (r2.1, r2.2) else if x1 = 2 then (zcall w d 1 [zA 1 6 18] σ).bind fun r3 => (zcall w d 57 [zA 6 1 r3.1] r3.2).bind fun r4 => some (r4.1, r4.2) else if x1 = 3 then (zcall w d 3 [zA 1 6 18] σ).bind fun r5 => some (r5.1, r5.2) else if x1 = 4 then (zcall w d 63 [zA 7 11 78] σ).bind fun r6 => some (r6.1, r6.2) else if x1 = 5 then (zcall w d 4 [zA 1 6 18] σ).bind fun r7 => some (r7.1, r7.2) else if x1 = 6 then (zcall w d 83 [zA 8 3 74] σ).bind fun r8 => some (r8.1, r8.2) else (zcall w d 200 [zI x1, zI 12, zI (zar 0 11 5)] σ).bind fun r9 => if r9.1 = 0 then some (-1, r9.2) else if (0 : Int) ≤ (zar 1 x1 12) ∧ (zar 1 x1 12) < 5 then some (r9.2 208 (zar 1 x1 12), r9.2) else none :=
  (zcall_eq rfl).trans (zunr_eq w zc_X11_status [] (d + 1) 193 rfl 99 _ _ _ _).symm
set_option maxRecDepth 100000 in
theorem eX11_refused (w : zW) (d : Nat) (x1 : Int) (σ : zMem) : zcall w d 194 [zA 12 16 1, zI x1] σ =
  if (zar 1 (-62) x1) < 0 then some (x1, σ) else if (zar 1 (-62) x1) < 5 then if (0 : Int) ≤ (zar 1 (-62) x1) ∧ (zar 1 (-62) x1) < 5 then if (0 : Int) ≤ (zar 1 (-62) x1) ∧ (zar 1 (-62) x1) < 5 then some (x1, zup σ 208 (zar 1 (-62) x1) (zar 0 (σ 208 (zar 1 (-62) x1)) 1)) else none else none else some (x1, σ) :=
  (zcall_eq rfl).trans (zunr_eq w zc_X11_refused [] d 194 rfl 71 _ _ _ _).symm
set_option maxRecDepth 100000 in
theorem eX11_rowRefusal (w : zW) (d : Nat) (x1 : Int) (σ : zMem) : zcall w (d + 1) 195 [zA 12 16 1, zI x1] σ =
  (zcall w d 201 [zI x1] σ).bind fun r1 => if r1.1 = 0 then some (-62, r1.2) else (zcall w d 81 [zA 8 3 74, zI x1] r1.2).bind fun r2 => if r2.1 < 10 then if r2.1 = (-1) then some (-64, r2.2) else some (0, r2.2) else some (-63, r2.2) :=
  (zcall_eq rfl).trans (zunr_eq w zc_X11_rowRefusal [] (d + 1) 195 rfl 72 _ _ _ _).symm
set_option maxRecDepth 100000 in
theorem eX11_toldRefusal (w : zW) (d : Nat) (x1 x2 : Int) (σ : zMem) : zcall w (d + 1) 196 [zA 12 16 1, zI x1, zI x2] σ =
  (zcall w d 195 [zA 12 16 1, zI x1] σ).bind fun r1 => if r1.1 = 0 then (zcall w d 82 [zA 8 3 74, zI x1] r1.2).bind fun r2 => if r2.1 < (zar 2 2 x2) then some (-62, r2.2) else zden w (d + 1) 196 20 [zA 12 16 1, zI x1, zI x2, zI r1.1, zI 0, zU, zU, zU, zU] [] r2.2 else some (r1.1, r1.2) :=
  (zcall_eq rfl).trans (zunr_eq w zc_X11_toldRefusal [20] (d + 1) 196 rfl 113 _ _ _ _).symm
set_option maxRecDepth 100000 in
theorem hX11_toldRefusal_20 (w : zW) (d : Nat) (x1 x2 x4 : Int) (v3 v5 v7 : zV) (σ : zMem) : zden w (d + 1) 196 20 [zA 12 16 1, zI x1, zI x2, v3, zI x4, v5, zU, v7, zU] [] σ =
  if x4 < x2 then (zcall w d 88 [zA 8 3 74, zI x1, zI (zar 2 2 x4)] σ).bind fun r1 => (zcall w d 88 [zA 8 3 74, zI x1, zI (zar 0 (zar 2 2 x4) 1)] r1.2).bind fun r2 => if (zar 22 r1.1 0) < 0 then some (-65, r2.2) else if (zar 22 r1.1 4096) < 0 then if (zar 22 r2.1 0) < 0 then some (-65, r2.2) else if 0 < (zar 22 r2.1 1) then some (-65, r2.2) else zden w (d + 1) 196 20 [zA 12 16 1, zI x1, zI x2, (zlng 0 v3), zI (zar 0 x4 1), zJ r1.1, zU, zJ r2.1, zU] [] r2.2 else some (-65, r2.2) else some (0, σ) :=
  (zunr_eq w zc_X11_toldRefusal [20] (d + 1) 196 rfl 113 _ _ _ _).symm
set_option maxRecDepth 100000 in
theorem eX11_isShape (w : zW) (d : Nat) (x1 : Int) (σ : zMem) : zcall w (d + 1) 197 [zA 12 16 1, zI x1] σ =
  if x1 < 0 then some (0, σ) else (zcall w d 110 [zA 10 8 2] σ).bind fun r1 => if x1 < r1.1 then some (1, r1.2) else some (0, r1.2) :=
  (zcall_eq rfl).trans (zunr_eq w zc_X11_isShape [] (d + 1) 197 rfl 61 _ _ _ _).symm
set_option maxRecDepth 100000 in
theorem eX11_placesOf (w : zW) (d : Nat) (x1 : Int) (σ : zMem) : zcall w (d + 1) 198 [zA 12 16 1, zI x1] σ =
  (zcall w d 37 [zA 4 5 85, zA 10 8 2, zI x1] σ).bind fun r1 => some (r1.1, r1.2) :=
  (zcall_eq rfl).trans (zunr_eq w zc_X11_placesOf [] (d + 1) 198 rfl 57 _ _ _ _).symm
set_option maxRecDepth 100000 in
theorem eX11_worthIn (w : zW) (d : Nat) (x1 x2 : Int) (σ : zMem) : zcall w (d + 1) 199 [zA 12 16 1, zI x1, zI x2] σ =
  (zcall w d 209 [zI x2, zI 0] σ).bind fun r1 => (zcall w d 209 [zI x2, zI 1] r1.2).bind fun r2 => (zcall w d 209 [zI x2, zI 2] r2.2).bind fun r3 => (zcall w d 42 [zA 5 2 173, zA 10 8 2, zI x1, zI r1.1, zI r2.1, zI r3.1] r3.2).bind fun r4 => some (r4.1, r4.2) :=
  (zcall_eq rfl).trans (zunr_eq w zc_X11_worthIn [] (d + 1) 199 rfl 66 _ _ _ _).symm
set_option maxRecDepth 100000 in
theorem eX11_isBetween (w : zW) (d : Nat) (x1 x2 x3 : Int) (σ : zMem) : zcall w d 200 [zI x1, zI x2, zI x3] σ =
  if x1 < x2 then some (0, σ) else if x3 < x1 then some (0, σ) else some (1, σ) :=
  (zcall_eq rfl).trans (zunr_eq w zc_X11_isBetween [] d 200 rfl 60 _ _ _ _).symm
set_option maxRecDepth 100000 in
theorem eX11_isShelf (w : zW) (d : Nat) (x1 : Int) (σ : zMem) : zcall w d 201 [zI x1] σ =
  if x1 < 0 then some (0, σ) else if x1 < 8 then some (1, σ) else some (0, σ) :=
  (zcall_eq rfl).trans (zunr_eq w zc_X11_isShelf [] d 201 rfl 59 _ _ _ _).symm
set_option maxRecDepth 100000 in
theorem eX11_isPlace (w : zW) (d : Nat) (x1 : Int) (σ : zMem) : zcall w d 202 [zI x1] σ =
  if x1 < 0 then some (0, σ) else if x1 < 4096 then some (1, σ) else some (0, σ) :=
  (zcall_eq rfl).trans (zunr_eq w zc_X11_isPlace [] d 202 rfl 59 _ _ _ _).symm
set_option maxRecDepth 100000 in
theorem eX11_isAxis (w : zW) (d : Nat) (x1 : Int) (σ : zMem) : zcall w d 203 [zI x1] σ =
  if x1 < 0 then some (0, σ) else if x1 < 3 then some (1, σ) else some (0, σ) :=
  (zcall_eq rfl).trans (zunr_eq w zc_X11_isAxis [] d 203 rfl 59 _ _ _ _).symm
set_option maxRecDepth 100000 in
theorem eX11_isNear (w : zW) (d : Nat) (x1 : Int) (σ : zMem) : zcall w (d + 1) 204 [zI x1] σ =
  (zcall w d 200 [zI x1, zI (-99), zI 99] σ).bind fun r1 => if 0 ≤ r1.1 ∧ r1.1 ≤ 1 then some (r1.1, r1.2) else none :=
  (zcall_eq rfl).trans (zunr_eq w zc_X11_isNear [] (d + 1) 204 rfl 55 _ _ _ _).symm
set_option maxRecDepth 100000 in
theorem eX11_isStep (w : zW) (d : Nat) (x1 : Int) (σ : zMem) : zcall w (d + 1) 205 [zI x1] σ =
  (zcall w d 200 [zI x1, zI (-4), zI 4] σ).bind fun r1 => if 0 ≤ r1.1 ∧ r1.1 ≤ 1 then some (r1.1, r1.2) else none :=
  (zcall_eq rfl).trans (zunr_eq w zc_X11_isStep [] (d + 1) 205 rfl 55 _ _ _ _).symm
set_option maxRecDepth 100000 in
theorem eX11_isRun (w : zW) (d : Nat) (x1 x2 x3 : Int) (σ : zMem) : zcall w d 206 [zI x1, zI x2, zI x3] σ =
  if x1 < 0 then some (0, σ) else if x2 < 0 then some (0, σ) else if x3 < x2 then some (0, σ) else if (zar 1 x3 x2) < x1 then some (0, σ) else some (1, σ) :=
  (zcall_eq rfl).trans (zunr_eq w zc_X11_isRun [] d 206 rfl 66 _ _ _ _).symm
set_option maxRecDepth 100000 in
theorem eX11_isRegion (w : zW) (d : Nat) (x1 x2 : Int) (σ : zMem) : zcall w (d + 1) 207 [zI x1, zI x2] σ =
  (zcall w d 202 [zI x1] σ).bind fun r1 => if r1.1 = 0 then some (0, r1.2) else (zcall w d 202 [zI x2] r1.2).bind fun r2 => if r2.1 = 0 then some (0, r2.2) else zden w (d + 1) 207 10 [zI x1, zI x2, zI 0] [] r2.2 :=
  (zcall_eq rfl).trans (zunr_eq w zc_X11_isRegion [10] (d + 1) 207 rfl 76 _ _ _ _).symm
set_option maxRecDepth 100000 in
theorem hX11_isRegion_10 (w : zW) (d : Nat) (x1 x2 : Int) (σ : zMem) : zden w (d + 1) 207 10 [zI x1, zI x2, zI x2] [] σ =
  if x2 < 3 then (zcall w d 209 [zI x1, zI x2] σ).bind fun r1 => (zcall w d 209 [zI x2, zI x2] r1.2).bind fun r2 => if r2.1 < r1.1 then some (0, r2.2) else zden w (d + 1) 207 10 [zI x1, zI x2, zI (zar 0 x2 1)] [] r2.2 else some (1, σ) :=
  (zunr_eq w zc_X11_isRegion [10] (d + 1) 207 rfl 76 _ _ _ _).symm
set_option maxRecDepth 100000 in
theorem eX11_placeAt (w : zW) (d : Nat) (x1 x2 x3 : Int) (σ : zMem) : zcall w d 208 [zI x1, zI x2, zI x3] σ =
  some (zar 0 (zar 0 (zar 2 256 x1) (zar 2 16 x2)) x3, σ) :=
  (zcall_eq rfl).trans (zunr_eq w zc_X11_placeAt [] d 208 rfl 60 _ _ _ _).symm
set_option maxRecDepth 100000 in
theorem eX11_numberOn (w : zW) (d : Nat) (x1 x2 : Int) (σ : zMem) : zcall w (d + 1) 209 [zI x1, zI x2] σ =
  (zcall w d 210 [zI x2] σ).bind fun r1 => some (zar 6 (zar 10 x1 r1.1) 15, r1.2) :=
  (zcall_eq rfl).trans (zunr_eq w zc_X11_numberOn [] (d + 1) 209 rfl 57 _ _ _ _).symm
set_option maxRecDepth 100000 in
theorem eX11_shiftOf (w : zW) (d : Nat) (x1 : Int) (σ : zMem) : zcall w d 210 [zI x1] σ =
  some (zar 2 4 (zar 1 2 x1), σ) :=
  (zcall_eq rfl).trans (zunr_eq w zc_X11_shiftOf [] d 210 rfl 56 _ _ _ _).symm
set_option maxRecDepth 100000 in
theorem eX11_moved (w : zW) (d : Nat) (x1 x2 x3 : Int) (σ : zMem) : zcall w (d + 1) 211 [zI x1, zI x2, zI x3] σ =
  (zcall w d 202 [zI x1] σ).bind fun r1 => if r1.1 = 0 then some (-1, r1.2) else (zcall w d 209 [zI x1, zI x2] r1.2).bind fun r2 => (zcall w d 200 [zI (zar 0 r2.1 x3), zI 0, zI 15] r2.2).bind fun r3 => if r3.1 = 0 then some (-1, r3.2) else (zcall w d 210 [zI x2] r3.2).bind fun r4 => some (zar 0 x1 (zar 9 x3 r4.1), r4.2) :=
  (zcall_eq rfl).trans (zunr_eq w zc_X11_moved [] (d + 1) 211 rfl 71 _ _ _ _).symm
set_option maxRecDepth 100000 in
theorem eJ13_bitCount_95d88 (w : zW) (d : Nat) (x1 : Int) (σ : zMem) : zcall w d 338 [zJ x1] σ =
  some (zar 6 (zar 23 (zar 12 (zar 12 (zar 12 (zar 17 (zar 12 (zar 12 (zar 17 (zar 13 x1 (zar 17 (zar 21 x1 1) 6148914691236517205)) 3689348814741910323) (zar 17 (zar 21 (zar 13 x1 (zar 17 (zar 21 x1 1) 6148914691236517205)) 2) 3689348814741910323)) (zar 21 (zar 12 (zar 17 (zar 13 x1 (zar 17 (zar 21 x1 1) 6148914691236517205)) 3689348814741910323) (zar 17 (zar 21 (zar 13 x1 (zar 17 (zar 21 x1 1) 6148914691236517205)) 2) 3689348814741910323)) 4)) 1085102592571150095) (zar 21 (zar 17 (zar 12 (zar 12 (zar 17 (zar 13 x1 (zar 17 (zar 21 x1 1) 6148914691236517205)) 3689348814741910323) (zar 17 (zar 21 (zar 13 x1 (zar 17 (zar 21 x1 1) 6148914691236517205)) 2) 3689348814741910323)) (zar 21 (zar 12 (zar 17 (zar 13 x1 (zar 17 (zar 21 x1 1) 6148914691236517205)) 3689348814741910323) (zar 17 (zar 21 (zar 13 x1 (zar 17 (zar 21 x1 1) 6148914691236517205)) 2) 3689348814741910323)) 4)) 1085102592571150095) 8)) (zar 21 (zar 12 (zar 17 (zar 12 (zar 12 (zar 17 (zar 13 x1 (zar 17 (zar 21 x1 1) 6148914691236517205)) 3689348814741910323) (zar 17 (zar 21 (zar 13 x1 (zar 17 (zar 21 x1 1) 6148914691236517205)) 2) 3689348814741910323)) (zar 21 (zar 12 (zar 17 (zar 13 x1 (zar 17 (zar 21 x1 1) 6148914691236517205)) 3689348814741910323) (zar 17 (zar 21 (zar 13 x1 (zar 17 (zar 21 x1 1) 6148914691236517205)) 2) 3689348814741910323)) 4)) 1085102592571150095) (zar 21 (zar 17 (zar 12 (zar 12 (zar 17 (zar 13 x1 (zar 17 (zar 21 x1 1) 6148914691236517205)) 3689348814741910323) (zar 17 (zar 21 (zar 13 x1 (zar 17 (zar 21 x1 1) 6148914691236517205)) 2) 3689348814741910323)) (zar 21 (zar 12 (zar 17 (zar 13 x1 (zar 17 (zar 21 x1 1) 6148914691236517205)) 3689348814741910323) (zar 17 (zar 21 (zar 13 x1 (zar 17 (zar 21 x1 1) 6148914691236517205)) 2) 3689348814741910323)) 4)) 1085102592571150095) 8)) 16)) (zar 21 (zar 12 (zar 12 (zar 17 (zar 12 (zar 12 (zar 17 (zar 13 x1 (zar 17 (zar 21 x1 1) 6148914691236517205)) 3689348814741910323) (zar 17 (zar 21 (zar 13 x1 (zar 17 (zar 21 x1 1) 6148914691236517205)) 2) 3689348814741910323)) (zar 21 (zar 12 (zar 17 (zar 13 x1 (zar 17 (zar 21 x1 1) 6148914691236517205)) 3689348814741910323) (zar 17 (zar 21 (zar 13 x1 (zar 17 (zar 21 x1 1) 6148914691236517205)) 2) 3689348814741910323)) 4)) 1085102592571150095) (zar 21 (zar 17 (zar 12 (zar 12 (zar 17 (zar 13 x1 (zar 17 (zar 21 x1 1) 6148914691236517205)) 3689348814741910323) (zar 17 (zar 21 (zar 13 x1 (zar 17 (zar 21 x1 1) 6148914691236517205)) 2) 3689348814741910323)) (zar 21 (zar 12 (zar 17 (zar 13 x1 (zar 17 (zar 21 x1 1) 6148914691236517205)) 3689348814741910323) (zar 17 (zar 21 (zar 13 x1 (zar 17 (zar 21 x1 1) 6148914691236517205)) 2) 3689348814741910323)) 4)) 1085102592571150095) 8)) (zar 21 (zar 12 (zar 17 (zar 12 (zar 12 (zar 17 (zar 13 x1 (zar 17 (zar 21 x1 1) 6148914691236517205)) 3689348814741910323) (zar 17 (zar 21 (zar 13 x1 (zar 17 (zar 21 x1 1) 6148914691236517205)) 2) 3689348814741910323)) (zar 21 (zar 12 (zar 17 (zar 13 x1 (zar 17 (zar 21 x1 1) 6148914691236517205)) 3689348814741910323) (zar 17 (zar 21 (zar 13 x1 (zar 17 (zar 21 x1 1) 6148914691236517205)) 2) 3689348814741910323)) 4)) 1085102592571150095) (zar 21 (zar 17 (zar 12 (zar 12 (zar 17 (zar 13 x1 (zar 17 (zar 21 x1 1) 6148914691236517205)) 3689348814741910323) (zar 17 (zar 21 (zar 13 x1 (zar 17 (zar 21 x1 1) 6148914691236517205)) 2) 3689348814741910323)) (zar 21 (zar 12 (zar 17 (zar 13 x1 (zar 17 (zar 21 x1 1) 6148914691236517205)) 3689348814741910323) (zar 17 (zar 21 (zar 13 x1 (zar 17 (zar 21 x1 1) 6148914691236517205)) 2) 3689348814741910323)) 4)) 1085102592571150095) 8)) 16)) 32)) 0) 127, σ) :=
  (zcall_eq rfl).trans (zunr_eq w zc_J13_bitCount_95d88 [] d 338 rfl 99 _ _ _ _).symm
set_option maxRecDepth 100000 in
theorem eJ9_floorMod_7cf53 (w : zW) (d : Nat) (x1 x2 : Int) (σ : zMem) : zcall w d 339 [zI x1, zI x2] σ =
  if x2 = 0 then none else if (zar 8 x1 x2) < 0 then if (zar 4 x1 x2) = 0 then some (zar 4 x1 x2, σ) else some (zar 0 (zar 4 x1 x2) x2, σ) else some (zar 4 x1 x2, σ) :=
  (zcall_eq rfl).trans (zunr_eq w zc_J9_floorMod_7cf53 [] d 339 rfl 66 _ _ _ _).symm
set_option maxRecDepth 100000 in
theorem eJ9_abs_067f4 (w : zW) (d : Nat) (x1 : Int) (σ : zMem) : zcall w d 340 [zJ x1] σ =
  if (zar 22 x1 0) < 0 then some (zar 16 x1 0, σ) else some (x1, σ) :=
  (zcall_eq rfl).trans (zunr_eq w zc_J9_abs_067f4 [] d 340 rfl 59 _ _ _ _).symm
set_option maxRecDepth 100000 in
theorem eJ9_max_7cf53 (w : zW) (d : Nat) (x1 x2 : Int) (σ : zMem) : zcall w d 341 [zI x1, zI x2] σ =
  if x1 < x2 then some (x2, σ) else some (x1, σ) :=
  (zcall_eq rfl).trans (zunr_eq w zc_J9_max_7cf53 [] d 341 rfl 57 _ _ _ _).symm
set_option maxRecDepth 100000 in
theorem eJ9_max_f86c9 (w : zW) (d : Nat) (x1 x2 : Int) (σ : zMem) : zcall w d 342 [zJ x1, zJ x2] σ =
  if (zar 22 x1 x2) < 0 then some (x2, σ) else some (x1, σ) :=
  (zcall_eq rfl).trans (zunr_eq w zc_J9_max_f86c9 [] d 342 rfl 58 _ _ _ _).symm
set_option maxRecDepth 100000 in
theorem eJ9_min_7cf53 (w : zW) (d : Nat) (x1 x2 : Int) (σ : zMem) : zcall w d 343 [zI x1, zI x2] σ =
  if x2 < x1 then some (x2, σ) else some (x1, σ) :=
  (zcall_eq rfl).trans (zunr_eq w zc_J9_min_7cf53 [] d 343 rfl 57 _ _ _ _).symm
set_option maxRecDepth 100000 in
theorem eJ9_min_f86c9 (w : zW) (d : Nat) (x1 x2 : Int) (σ : zMem) : zcall w d 344 [zJ x1, zJ x2] σ =
  if 0 < (zar 22 x1 x2) then some (x2, σ) else some (x1, σ) :=
  (zcall_eq rfl).trans (zunr_eq w zc_J9_min_f86c9 [] d 344 rfl 58 _ _ _ _).symm
set_option maxRecDepth 100000 in
theorem eJ0_length_8abf5 (w : zW) (d : Nat) (a0 : Int) (σ : zMem) : zcall w (d + 1) 345 [zA 40 0 a0] σ =
  (zcall w d 347 [zA 40 0 a0] σ).bind fun r1 => some (zar 10 (zR w (zR w a0 0) (-1)) r1.1, r1.2) :=
  (zcall_eq rfl).trans (zunr_eq w zc_J0_length_8abf5 [] (d + 1) 345 rfl 57 _ _ _ _).symm
set_option maxRecDepth 100000 in
theorem eJ0_charAt_5068e (w : zW) (d : Nat) (a0 x1 : Int) (σ : zMem) : zcall w (d + 1) 346 [zA 40 0 a0, zI x1] σ =
  (zcall w d 348 [zA 40 0 a0] σ).bind fun r1 => if r1.1 = 0 then none else (zcall w d 350 [zA 24 0 (zR w a0 0), zI x1] r1.2).bind fun r2 => if 0 ≤ r2.1 ∧ r2.1 ≤ 65535 then some (r2.1, r2.2) else none :=
  (zcall_eq rfl).trans (zunr_eq w zc_J0_charAt_5068e [] (d + 1) 346 rfl 63 _ _ _ _).symm
set_option maxRecDepth 100000 in
theorem eJ0_coder_7d493 (w : zW) (d : Nat) (a0 : Int) (σ : zMem) : zcall w d 347 [zA 40 0 a0] σ =
  if -128 ≤ (zR w a0 1) ∧ (zR w a0 1) ≤ 127 then some (zR w a0 1, σ) else none :=
  (zcall_eq rfl).trans (zunr_eq w zc_J0_coder_7d493 [] d 347 rfl 57 _ _ _ _).symm
set_option maxRecDepth 100000 in
theorem eJ0_isLatin1_aae02 (w : zW) (d : Nat) (a0 : Int) (σ : zMem) : zcall w d 348 [zA 40 0 a0] σ =
  if (zR w a0 1) = 0 then some (1, σ) else some (0, σ) :=
  (zcall_eq rfl).trans (zunr_eq w zc_J0_isLatin1_aae02 [] d 348 rfl 59 _ _ _ _).symm
set_option maxRecDepth 100000 in
theorem eJ0_checkIndex_df160 (w : zW) (d : Nat) (x1 x2 : Int) (σ : zMem) : zcall w (d + 1) 349 [zI x1, zI x2] σ =
  (zcall w d 351 [zI x1, zI x2, zU] σ).bind fun r1 => some (0, r1.2) :=
  (zcall_eq rfl).trans (zunr_eq w zc_J0_checkIndex_df160 [] (d + 1) 349 rfl 56 _ _ _ _).symm
set_option maxRecDepth 100000 in
theorem eJ1_charAt_3b067 (w : zW) (d : Nat) (a1 x2 : Int) (σ : zMem) : zcall w (d + 1) 350 [zA 24 0 a1, zI x2] σ =
  (zcall w d 349 [zI x2, zI (zR w a1 (-1))] σ).bind fun r1 => if (0 : Int) ≤ x2 ∧ x2 < (zR w a1 (-1)) then if 0 ≤ (zar 26 (zar 6 (zR w a1 x2) 255) 0) ∧ (zar 26 (zar 6 (zR w a1 x2) 255) 0) ≤ 65535 then some (zar 26 (zar 6 (zR w a1 x2) 255) 0, r1.2) else none else none :=
  (zcall_eq rfl).trans (zunr_eq w zc_J1_charAt_3b067 [] (d + 1) 350 rfl 61 _ _ _ _).symm
set_option maxRecDepth 100000 in
theorem eJ3_checkIndex_8e157 (w : zW) (d : Nat) (x1 x2 : Int) (σ : zMem) : zcall w d 351 [zI x1, zI x2, zU] σ =
  if x1 < 0 then none else if x1 < x2 then some (x1, σ) else none :=
  (zcall_eq rfl).trans (zunr_eq w zc_J3_checkIndex_8e157 [] d 351 rfl 62 _ _ _ _).symm
