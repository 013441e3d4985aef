/-! The arithmetic by numbers, arm by arm (the functions are variables first: so nothing is opened) -/
def zarG (g0 g1 g2 g3 g4 g5 g6 g7 g8 g9 g10 g11 g12 g13 g14 g15 g16 g17 g18 g19 g20 g21 g22 g23 g24 g25 g26 : Int → Int → Int) (o : Nat) (x y : Int) : Int := match o with
  | 0 => g0 x y
  | 1 => g1 x y
  | 2 => g2 x y
  | 3 => g3 x y
  | 4 => g4 x y
  | 5 => g5 x y
  | 6 => g6 x y
  | 7 => g7 x y
  | 8 => g8 x y
  | 9 => g9 x y
  | 10 => g10 x y
  | 11 => g11 x y
  | 12 => g12 x y
  | 13 => g13 x y
  | 14 => g14 x y
  | 15 => g15 x y
  | 16 => g16 x y
  | 17 => g17 x y
  | 18 => g18 x y
  | 19 => g19 x y
  | 20 => g20 x y
  | 21 => g21 x y
  | 22 => g22 x y
  | 23 => g23 x y
  | 24 => g24 x y
  | 25 => g25 x y
  | 26 => g26 x y
  | _ => 0
theorem zarG_eq (o : Nat) (x y : Int) : zarR o x y = zarG (fun x y => zw32 (x + y)) (fun x y => zw32 (x - y)) (fun x y => zw32 (x * y)) (fun x y => zw32 (x.tdiv y)) (fun x y => x.tmod y) (fun x y => zw32 (-x)) (fun x y => zand x y) (fun x y => zor x y) (fun x y => zxor x y) (fun x y => zshl x y) (fun x y => zshr x y) (fun x y => zushr x y) (fun x y => zw64 (x + y)) (fun x y => zw64 (x - y)) (fun x y => zw64 (x * y)) (fun x y => zw64 (x.tdiv y)) (fun x y => zw64 (-x)) (fun x y => zandL x y) (fun x y => zorL x y) (fun x y => zxorL x y) (fun x y => zshlL x y) (fun x y => zushrL x y) (fun x y => zcmp x y) (fun x y => zw32 x) (fun x y => zw8 x) (fun x y => zw16 x) (fun x y => x % 65536) o x y := by
  unfold zarR zarG
  rfl
theorem zarG_0 (g0 g1 g2 g3 g4 g5 g6 g7 g8 g9 g10 g11 g12 g13 g14 g15 g16 g17 g18 g19 g20 g21 g22 g23 g24 g25 g26 : Int → Int → Int) (x y : Int) : zarG g0 g1 g2 g3 g4 g5 g6 g7 g8 g9 g10 g11 g12 g13 g14 g15 g16 g17 g18 g19 g20 g21 g22 g23 g24 g25 g26 0 x y = g0 x y := rfl
theorem zar_0 (x y : Int) : zarR 0 x y = zw32 (x + y) := (zarG_eq 0 x y).trans (zarG_0 _ _ _ _ _ _ _ _ _ _ _ _ _ _ _ _ _ _ _ _ _ _ _ _ _ _ _  x y)
theorem za_0 (x y : Int) : zar 0 x y = zw32 (x + y) := by rw [zar_eq]; exact zar_0 x y
theorem zarG_1 (g0 g1 g2 g3 g4 g5 g6 g7 g8 g9 g10 g11 g12 g13 g14 g15 g16 g17 g18 g19 g20 g21 g22 g23 g24 g25 g26 : Int → Int → Int) (x y : Int) : zarG g0 g1 g2 g3 g4 g5 g6 g7 g8 g9 g10 g11 g12 g13 g14 g15 g16 g17 g18 g19 g20 g21 g22 g23 g24 g25 g26 1 x y = g1 x y := rfl
theorem zar_1 (x y : Int) : zarR 1 x y = zw32 (x - y) := (zarG_eq 1 x y).trans (zarG_1 _ _ _ _ _ _ _ _ _ _ _ _ _ _ _ _ _ _ _ _ _ _ _ _ _ _ _  x y)
theorem za_1 (x y : Int) : zar 1 x y = zw32 (x - y) := by rw [zar_eq]; exact zar_1 x y
theorem zarG_2 (g0 g1 g2 g3 g4 g5 g6 g7 g8 g9 g10 g11 g12 g13 g14 g15 g16 g17 g18 g19 g20 g21 g22 g23 g24 g25 g26 : Int → Int → Int) (x y : Int) : zarG g0 g1 g2 g3 g4 g5 g6 g7 g8 g9 g10 g11 g12 g13 g14 g15 g16 g17 g18 g19 g20 g21 g22 g23 g24 g25 g26 2 x y = g2 x y := rfl
theorem zar_2 (x y : Int) : zarR 2 x y = zw32 (x * y) := (zarG_eq 2 x y).trans (zarG_2 _ _ _ _ _ _ _ _ _ _ _ _ _ _ _ _ _ _ _ _ _ _ _ _ _ _ _  x y)
theorem za_2 (x y : Int) : zar 2 x y = zw32 (x * y) := by rw [zar_eq]; exact zar_2 x y
theorem zarG_3 (g0 g1 g2 g3 g4 g5 g6 g7 g8 g9 g10 g11 g12 g13 g14 g15 g16 g17 g18 g19 g20 g21 g22 g23 g24 g25 g26 : Int → Int → Int) (x y : Int) : zarG g0 g1 g2 g3 g4 g5 g6 g7 g8 g9 g10 g11 g12 g13 g14 g15 g16 g17 g18 g19 g20 g21 g22 g23 g24 g25 g26 3 x y = g3 x y := rfl
theorem zar_3 (x y : Int) : zarR 3 x y = zw32 (x.tdiv y) := (zarG_eq 3 x y).trans (zarG_3 _ _ _ _ _ _ _ _ _ _ _ _ _ _ _ _ _ _ _ _ _ _ _ _ _ _ _  x y)
theorem za_3 (x y : Int) : zar 3 x y = zw32 (x.tdiv y) := by rw [zar_eq]; exact zar_3 x y
theorem zarG_4 (g0 g1 g2 g3 g4 g5 g6 g7 g8 g9 g10 g11 g12 g13 g14 g15 g16 g17 g18 g19 g20 g21 g22 g23 g24 g25 g26 : Int → Int → Int) (x y : Int) : zarG g0 g1 g2 g3 g4 g5 g6 g7 g8 g9 g10 g11 g12 g13 g14 g15 g16 g17 g18 g19 g20 g21 g22 g23 g24 g25 g26 4 x y = g4 x y := rfl
theorem zar_4 (x y : Int) : zarR 4 x y = x.tmod y := (zarG_eq 4 x y).trans (zarG_4 _ _ _ _ _ _ _ _ _ _ _ _ _ _ _ _ _ _ _ _ _ _ _ _ _ _ _  x y)
theorem za_4 (x y : Int) : zar 4 x y = x.tmod y := by rw [zar_eq]; exact zar_4 x y
theorem zarG_5 (g0 g1 g2 g3 g4 g5 g6 g7 g8 g9 g10 g11 g12 g13 g14 g15 g16 g17 g18 g19 g20 g21 g22 g23 g24 g25 g26 : Int → Int → Int) (x y : Int) : zarG g0 g1 g2 g3 g4 g5 g6 g7 g8 g9 g10 g11 g12 g13 g14 g15 g16 g17 g18 g19 g20 g21 g22 g23 g24 g25 g26 5 x y = g5 x y := rfl
theorem zar_5 (x y : Int) : zarR 5 x y = zw32 (-x) := (zarG_eq 5 x y).trans (zarG_5 _ _ _ _ _ _ _ _ _ _ _ _ _ _ _ _ _ _ _ _ _ _ _ _ _ _ _  x y)
theorem za_5 (x y : Int) : zar 5 x y = zw32 (-x) := by rw [zar_eq]; exact zar_5 x y
theorem zarG_6 (g0 g1 g2 g3 g4 g5 g6 g7 g8 g9 g10 g11 g12 g13 g14 g15 g16 g17 g18 g19 g20 g21 g22 g23 g24 g25 g26 : Int → Int → Int) (x y : Int) : zarG g0 g1 g2 g3 g4 g5 g6 g7 g8 g9 g10 g11 g12 g13 g14 g15 g16 g17 g18 g19 g20 g21 g22 g23 g24 g25 g26 6 x y = g6 x y := rfl
theorem zar_6 (x y : Int) : zarR 6 x y = zand x y := (zarG_eq 6 x y).trans (zarG_6 _ _ _ _ _ _ _ _ _ _ _ _ _ _ _ _ _ _ _ _ _ _ _ _ _ _ _  x y)
theorem za_6 (x y : Int) : zar 6 x y = zand x y := by rw [zar_eq]; exact zar_6 x y
theorem zarG_7 (g0 g1 g2 g3 g4 g5 g6 g7 g8 g9 g10 g11 g12 g13 g14 g15 g16 g17 g18 g19 g20 g21 g22 g23 g24 g25 g26 : Int → Int → Int) (x y : Int) : zarG g0 g1 g2 g3 g4 g5 g6 g7 g8 g9 g10 g11 g12 g13 g14 g15 g16 g17 g18 g19 g20 g21 g22 g23 g24 g25 g26 7 x y = g7 x y := rfl
theorem zar_7 (x y : Int) : zarR 7 x y = zor x y := (zarG_eq 7 x y).trans (zarG_7 _ _ _ _ _ _ _ _ _ _ _ _ _ _ _ _ _ _ _ _ _ _ _ _ _ _ _  x y)
theorem za_7 (x y : Int) : zar 7 x y = zor x y := by rw [zar_eq]; exact zar_7 x y
theorem zarG_8 (g0 g1 g2 g3 g4 g5 g6 g7 g8 g9 g10 g11 g12 g13 g14 g15 g16 g17 g18 g19 g20 g21 g22 g23 g24 g25 g26 : Int → Int → Int) (x y : Int) : zarG g0 g1 g2 g3 g4 g5 g6 g7 g8 g9 g10 g11 g12 g13 g14 g15 g16 g17 g18 g19 g20 g21 g22 g23 g24 g25 g26 8 x y = g8 x y := rfl
theorem zar_8 (x y : Int) : zarR 8 x y = zxor x y := (zarG_eq 8 x y).trans (zarG_8 _ _ _ _ _ _ _ _ _ _ _ _ _ _ _ _ _ _ _ _ _ _ _ _ _ _ _  x y)
theorem za_8 (x y : Int) : zar 8 x y = zxor x y := by rw [zar_eq]; exact zar_8 x y
theorem zarG_9 (g0 g1 g2 g3 g4 g5 g6 g7 g8 g9 g10 g11 g12 g13 g14 g15 g16 g17 g18 g19 g20 g21 g22 g23 g24 g25 g26 : Int → Int → Int) (x y : Int) : zarG g0 g1 g2 g3 g4 g5 g6 g7 g8 g9 g10 g11 g12 g13 g14 g15 g16 g17 g18 g19 g20 g21 g22 g23 g24 g25 g26 9 x y = g9 x y := rfl
theorem zar_9 (x y : Int) : zarR 9 x y = zshl x y := (zarG_eq 9 x y).trans (zarG_9 _ _ _ _ _ _ _ _ _ _ _ _ _ _ _ _ _ _ _ _ _ _ _ _ _ _ _  x y)
theorem za_9 (x y : Int) : zar 9 x y = zshl x y := by rw [zar_eq]; exact zar_9 x y
theorem zarG_10 (g0 g1 g2 g3 g4 g5 g6 g7 g8 g9 g10 g11 g12 g13 g14 g15 g16 g17 g18 g19 g20 g21 g22 g23 g24 g25 g26 : Int → Int → Int) (x y : Int) : zarG g0 g1 g2 g3 g4 g5 g6 g7 g8 g9 g10 g11 g12 g13 g14 g15 g16 g17 g18 g19 g20 g21 g22 g23 g24 g25 g26 10 x y = g10 x y := rfl
theorem zar_10 (x y : Int) : zarR 10 x y = zshr x y := (zarG_eq 10 x y).trans (zarG_10 _ _ _ _ _ _ _ _ _ _ _ _ _ _ _ _ _ _ _ _ _ _ _ _ _ _ _  x y)
theorem za_10 (x y : Int) : zar 10 x y = zshr x y := by rw [zar_eq]; exact zar_10 x y
theorem zarG_11 (g0 g1 g2 g3 g4 g5 g6 g7 g8 g9 g10 g11 g12 g13 g14 g15 g16 g17 g18 g19 g20 g21 g22 g23 g24 g25 g26 : Int → Int → Int) (x y : Int) : zarG g0 g1 g2 g3 g4 g5 g6 g7 g8 g9 g10 g11 g12 g13 g14 g15 g16 g17 g18 g19 g20 g21 g22 g23 g24 g25 g26 11 x y = g11 x y := rfl
theorem zar_11 (x y : Int) : zarR 11 x y = zushr x y := (zarG_eq 11 x y).trans (zarG_11 _ _ _ _ _ _ _ _ _ _ _ _ _ _ _ _ _ _ _ _ _ _ _ _ _ _ _  x y)
theorem za_11 (x y : Int) : zar 11 x y = zushr x y := by rw [zar_eq]; exact zar_11 x y
theorem zarG_12 (g0 g1 g2 g3 g4 g5 g6 g7 g8 g9 g10 g11 g12 g13 g14 g15 g16 g17 g18 g19 g20 g21 g22 g23 g24 g25 g26 : Int → Int → Int) (x y : Int) : zarG g0 g1 g2 g3 g4 g5 g6 g7 g8 g9 g10 g11 g12 g13 g14 g15 g16 g17 g18 g19 g20 g21 g22 g23 g24 g25 g26 12 x y = g12 x y := rfl
theorem zar_12 (x y : Int) : zarR 12 x y = zw64 (x + y) := (zarG_eq 12 x y).trans (zarG_12 _ _ _ _ _ _ _ _ _ _ _ _ _ _ _ _ _ _ _ _ _ _ _ _ _ _ _  x y)
theorem za_12 (x y : Int) : zar 12 x y = zw64 (x + y) := by rw [zar_eq]; exact zar_12 x y
theorem zarG_13 (g0 g1 g2 g3 g4 g5 g6 g7 g8 g9 g10 g11 g12 g13 g14 g15 g16 g17 g18 g19 g20 g21 g22 g23 g24 g25 g26 : Int → Int → Int) (x y : Int) : zarG g0 g1 g2 g3 g4 g5 g6 g7 g8 g9 g10 g11 g12 g13 g14 g15 g16 g17 g18 g19 g20 g21 g22 g23 g24 g25 g26 13 x y = g13 x y := rfl
theorem zar_13 (x y : Int) : zarR 13 x y = zw64 (x - y) := (zarG_eq 13 x y).trans (zarG_13 _ _ _ _ _ _ _ _ _ _ _ _ _ _ _ _ _ _ _ _ _ _ _ _ _ _ _  x y)
theorem za_13 (x y : Int) : zar 13 x y = zw64 (x - y) := by rw [zar_eq]; exact zar_13 x y
theorem zarG_14 (g0 g1 g2 g3 g4 g5 g6 g7 g8 g9 g10 g11 g12 g13 g14 g15 g16 g17 g18 g19 g20 g21 g22 g23 g24 g25 g26 : Int → Int → Int) (x y : Int) : zarG g0 g1 g2 g3 g4 g5 g6 g7 g8 g9 g10 g11 g12 g13 g14 g15 g16 g17 g18 g19 g20 g21 g22 g23 g24 g25 g26 14 x y = g14 x y := rfl
theorem zar_14 (x y : Int) : zarR 14 x y = zw64 (x * y) := (zarG_eq 14 x y).trans (zarG_14 _ _ _ _ _ _ _ _ _ _ _ _ _ _ _ _ _ _ _ _ _ _ _ _ _ _ _  x y)
theorem za_14 (x y : Int) : zar 14 x y = zw64 (x * y) := by rw [zar_eq]; exact zar_14 x y
theorem zarG_15 (g0 g1 g2 g3 g4 g5 g6 g7 g8 g9 g10 g11 g12 g13 g14 g15 g16 g17 g18 g19 g20 g21 g22 g23 g24 g25 g26 : Int → Int → Int) (x y : Int) : zarG g0 g1 g2 g3 g4 g5 g6 g7 g8 g9 g10 g11 g12 g13 g14 g15 g16 g17 g18 g19 g20 g21 g22 g23 g24 g25 g26 15 x y = g15 x y := rfl
theorem zar_15 (x y : Int) : zarR 15 x y = zw64 (x.tdiv y) := (zarG_eq 15 x y).trans (zarG_15 _ _ _ _ _ _ _ _ _ _ _ _ _ _ _ _ _ _ _ _ _ _ _ _ _ _ _  x y)
theorem za_15 (x y : Int) : zar 15 x y = zw64 (x.tdiv y) := by rw [zar_eq]; exact zar_15 x y
theorem zarG_16 (g0 g1 g2 g3 g4 g5 g6 g7 g8 g9 g10 g11 g12 g13 g14 g15 g16 g17 g18 g19 g20 g21 g22 g23 g24 g25 g26 : Int → Int → Int) (x y : Int) : zarG g0 g1 g2 g3 g4 g5 g6 g7 g8 g9 g10 g11 g12 g13 g14 g15 g16 g17 g18 g19 g20 g21 g22 g23 g24 g25 g26 16 x y = g16 x y := rfl
theorem zar_16 (x y : Int) : zarR 16 x y = zw64 (-x) := (zarG_eq 16 x y).trans (zarG_16 _ _ _ _ _ _ _ _ _ _ _ _ _ _ _ _ _ _ _ _ _ _ _ _ _ _ _  x y)
theorem za_16 (x y : Int) : zar 16 x y = zw64 (-x) := by rw [zar_eq]; exact zar_16 x y
theorem zarG_17 (g0 g1 g2 g3 g4 g5 g6 g7 g8 g9 g10 g11 g12 g13 g14 g15 g16 g17 g18 g19 g20 g21 g22 g23 g24 g25 g26 : Int → Int → Int) (x y : Int) : zarG g0 g1 g2 g3 g4 g5 g6 g7 g8 g9 g10 g11 g12 g13 g14 g15 g16 g17 g18 g19 g20 g21 g22 g23 g24 g25 g26 17 x y = g17 x y := rfl
theorem zar_17 (x y : Int) : zarR 17 x y = zandL x y := (zarG_eq 17 x y).trans (zarG_17 _ _ _ _ _ _ _ _ _ _ _ _ _ _ _ _ _ _ _ _ _ _ _ _ _ _ _  x y)
theorem za_17 (x y : Int) : zar 17 x y = zandL x y := by rw [zar_eq]; exact zar_17 x y
theorem zarG_18 (g0 g1 g2 g3 g4 g5 g6 g7 g8 g9 g10 g11 g12 g13 g14 g15 g16 g17 g18 g19 g20 g21 g22 g23 g24 g25 g26 : Int → Int → Int) (x y : Int) : zarG g0 g1 g2 g3 g4 g5 g6 g7 g8 g9 g10 g11 g12 g13 g14 g15 g16 g17 g18 g19 g20 g21 g22 g23 g24 g25 g26 18 x y = g18 x y := rfl
theorem zar_18 (x y : Int) : zarR 18 x y = zorL x y := (zarG_eq 18 x y).trans (zarG_18 _ _ _ _ _ _ _ _ _ _ _ _ _ _ _ _ _ _ _ _ _ _ _ _ _ _ _  x y)
theorem za_18 (x y : Int) : zar 18 x y = zorL x y := by rw [zar_eq]; exact zar_18 x y
theorem zarG_19 (g0 g1 g2 g3 g4 g5 g6 g7 g8 g9 g10 g11 g12 g13 g14 g15 g16 g17 g18 g19 g20 g21 g22 g23 g24 g25 g26 : Int → Int → Int) (x y : Int) : zarG g0 g1 g2 g3 g4 g5 g6 g7 g8 g9 g10 g11 g12 g13 g14 g15 g16 g17 g18 g19 g20 g21 g22 g23 g24 g25 g26 19 x y = g19 x y := rfl
theorem zar_19 (x y : Int) : zarR 19 x y = zxorL x y := (zarG_eq 19 x y).trans (zarG_19 _ _ _ _ _ _ _ _ _ _ _ _ _ _ _ _ _ _ _ _ _ _ _ _ _ _ _  x y)
theorem za_19 (x y : Int) : zar 19 x y = zxorL x y := by rw [zar_eq]; exact zar_19 x y
theorem zarG_20 (g0 g1 g2 g3 g4 g5 g6 g7 g8 g9 g10 g11 g12 g13 g14 g15 g16 g17 g18 g19 g20 g21 g22 g23 g24 g25 g26 : Int → Int → Int) (x y : Int) : zarG g0 g1 g2 g3 g4 g5 g6 g7 g8 g9 g10 g11 g12 g13 g14 g15 g16 g17 g18 g19 g20 g21 g22 g23 g24 g25 g26 20 x y = g20 x y := rfl
theorem zar_20 (x y : Int) : zarR 20 x y = zshlL x y := (zarG_eq 20 x y).trans (zarG_20 _ _ _ _ _ _ _ _ _ _ _ _ _ _ _ _ _ _ _ _ _ _ _ _ _ _ _  x y)
theorem za_20 (x y : Int) : zar 20 x y = zshlL x y := by rw [zar_eq]; exact zar_20 x y
theorem zarG_21 (g0 g1 g2 g3 g4 g5 g6 g7 g8 g9 g10 g11 g12 g13 g14 g15 g16 g17 g18 g19 g20 g21 g22 g23 g24 g25 g26 : Int → Int → Int) (x y : Int) : zarG g0 g1 g2 g3 g4 g5 g6 g7 g8 g9 g10 g11 g12 g13 g14 g15 g16 g17 g18 g19 g20 g21 g22 g23 g24 g25 g26 21 x y = g21 x y := rfl
theorem zar_21 (x y : Int) : zarR 21 x y = zushrL x y := (zarG_eq 21 x y).trans (zarG_21 _ _ _ _ _ _ _ _ _ _ _ _ _ _ _ _ _ _ _ _ _ _ _ _ _ _ _  x y)
theorem za_21 (x y : Int) : zar 21 x y = zushrL x y := by rw [zar_eq]; exact zar_21 x y
theorem zarG_22 (g0 g1 g2 g3 g4 g5 g6 g7 g8 g9 g10 g11 g12 g13 g14 g15 g16 g17 g18 g19 g20 g21 g22 g23 g24 g25 g26 : Int → Int → Int) (x y : Int) : zarG g0 g1 g2 g3 g4 g5 g6 g7 g8 g9 g10 g11 g12 g13 g14 g15 g16 g17 g18 g19 g20 g21 g22 g23 g24 g25 g26 22 x y = g22 x y := rfl
theorem zar_22 (x y : Int) : zarR 22 x y = zcmp x y := (zarG_eq 22 x y).trans (zarG_22 _ _ _ _ _ _ _ _ _ _ _ _ _ _ _ _ _ _ _ _ _ _ _ _ _ _ _  x y)
theorem za_22 (x y : Int) : zar 22 x y = zcmp x y := by rw [zar_eq]; exact zar_22 x y
theorem zarG_23 (g0 g1 g2 g3 g4 g5 g6 g7 g8 g9 g10 g11 g12 g13 g14 g15 g16 g17 g18 g19 g20 g21 g22 g23 g24 g25 g26 : Int → Int → Int) (x y : Int) : zarG g0 g1 g2 g3 g4 g5 g6 g7 g8 g9 g10 g11 g12 g13 g14 g15 g16 g17 g18 g19 g20 g21 g22 g23 g24 g25 g26 23 x y = g23 x y := rfl
theorem zar_23 (x y : Int) : zarR 23 x y = zw32 x := (zarG_eq 23 x y).trans (zarG_23 _ _ _ _ _ _ _ _ _ _ _ _ _ _ _ _ _ _ _ _ _ _ _ _ _ _ _  x y)
theorem za_23 (x y : Int) : zar 23 x y = zw32 x := by rw [zar_eq]; exact zar_23 x y
theorem zarG_24 (g0 g1 g2 g3 g4 g5 g6 g7 g8 g9 g10 g11 g12 g13 g14 g15 g16 g17 g18 g19 g20 g21 g22 g23 g24 g25 g26 : Int → Int → Int) (x y : Int) : zarG g0 g1 g2 g3 g4 g5 g6 g7 g8 g9 g10 g11 g12 g13 g14 g15 g16 g17 g18 g19 g20 g21 g22 g23 g24 g25 g26 24 x y = g24 x y := rfl
theorem zar_24 (x y : Int) : zarR 24 x y = zw8 x := (zarG_eq 24 x y).trans (zarG_24 _ _ _ _ _ _ _ _ _ _ _ _ _ _ _ _ _ _ _ _ _ _ _ _ _ _ _  x y)
theorem za_24 (x y : Int) : zar 24 x y = zw8 x := by rw [zar_eq]; exact zar_24 x y
theorem zarG_25 (g0 g1 g2 g3 g4 g5 g6 g7 g8 g9 g10 g11 g12 g13 g14 g15 g16 g17 g18 g19 g20 g21 g22 g23 g24 g25 g26 : Int → Int → Int) (x y : Int) : zarG g0 g1 g2 g3 g4 g5 g6 g7 g8 g9 g10 g11 g12 g13 g14 g15 g16 g17 g18 g19 g20 g21 g22 g23 g24 g25 g26 25 x y = g25 x y := rfl
theorem zar_25 (x y : Int) : zarR 25 x y = zw16 x := (zarG_eq 25 x y).trans (zarG_25 _ _ _ _ _ _ _ _ _ _ _ _ _ _ _ _ _ _ _ _ _ _ _ _ _ _ _  x y)
theorem za_25 (x y : Int) : zar 25 x y = zw16 x := by rw [zar_eq]; exact zar_25 x y
theorem zarG_26 (g0 g1 g2 g3 g4 g5 g6 g7 g8 g9 g10 g11 g12 g13 g14 g15 g16 g17 g18 g19 g20 g21 g22 g23 g24 g25 g26 : Int → Int → Int) (x y : Int) : zarG g0 g1 g2 g3 g4 g5 g6 g7 g8 g9 g10 g11 g12 g13 g14 g15 g16 g17 g18 g19 g20 g21 g22 g23 g24 g25 g26 26 x y = g26 x y := rfl
theorem zar_26 (x y : Int) : zarR 26 x y = x % 65536 := (zarG_eq 26 x y).trans (zarG_26 _ _ _ _ _ _ _ _ _ _ _ _ _ _ _ _ _ _ _ _ _ _ _ _ _ _ _  x y)
theorem za_26 (x y : Int) : zar 26 x y = x % 65536 := by rw [zar_eq]; exact zar_26 x y
