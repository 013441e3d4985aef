/-! The law's own code is checked -/
theorem zchks_cut {c : List zQ} {b : ByteArray} {y own : Nat} {ret : Option FieldType} {ini : Bool} : ∀ (n : Nat) (l : List zQ) (j : Nat), zchks c b y own ret ini j (l.take n) = true → zchks c b y own ret ini (j + n) (l.drop n) = true → zchks c b y own ret ini j l = true
  | 0, l, j, _, h => h
  | n + 1, [], j, _, _ => rfl
  | n + 1, a :: l, j, h1, h2 => by
    simp only [List.take_succ_cons, List.drop_succ_cons, zchks, Bool.and_eq_true] at h1 h2 ⊢
    refine ⟨h1.1, zchks_cut n l (j + 1) h1.2 ?_⟩
    rw [show j + 1 + n = j + (n + 1) by omega]
    exact h2
def zckN (k : Nat) : Prop := zchks zc_L_law code 352 14 (some .boolean) false k (zc_L_law.drop k) = true
theorem zckN_cut {k : Nat} (n : Nat) (h1 : zchks zc_L_law code 352 14 (some .boolean) false k ((zc_L_law.drop k).take n) = true) (h2 : zckN (k + n)) : zckN k := by
  refine zchks_cut n _ _ h1 ?_
  rw [List.drop_drop]
  exact h2
set_option maxRecDepth 1000000 in
theorem zckl_0 : zchks zc_L_law code 352 14 (some .boolean) false 0 ((zc_L_law.drop 0).take 30) = true := by decide +kernel
set_option maxRecDepth 1000000 in
theorem zckl_30 : zchks zc_L_law code 352 14 (some .boolean) false 30 ((zc_L_law.drop 30).take 30) = true := by decide +kernel
set_option maxRecDepth 1000000 in
theorem zckl_60 : zchks zc_L_law code 352 14 (some .boolean) false 60 ((zc_L_law.drop 60).take 30) = true := by decide +kernel
set_option maxRecDepth 1000000 in
theorem zckl_90 : zchks zc_L_law code 352 14 (some .boolean) false 90 ((zc_L_law.drop 90).take 30) = true := by decide +kernel
set_option maxRecDepth 1000000 in
theorem zckl_120 : zchks zc_L_law code 352 14 (some .boolean) false 120 ((zc_L_law.drop 120).take 30) = true := by decide +kernel
set_option maxRecDepth 1000000 in
theorem zckl_150 : zchks zc_L_law code 352 14 (some .boolean) false 150 ((zc_L_law.drop 150).take 30) = true := by decide +kernel
set_option maxRecDepth 1000000 in
theorem zckl_180 : zchks zc_L_law code 352 14 (some .boolean) false 180 ((zc_L_law.drop 180).take 30) = true := by decide +kernel
set_option maxRecDepth 1000000 in
theorem zckl_210 : zchks zc_L_law code 352 14 (some .boolean) false 210 ((zc_L_law.drop 210).take 30) = true := by decide +kernel
set_option maxRecDepth 1000000 in
theorem zckl_240 : zchks zc_L_law code 352 14 (some .boolean) false 240 ((zc_L_law.drop 240).take 30) = true := by decide +kernel
set_option maxRecDepth 1000000 in
theorem zckl_270 : zchks zc_L_law code 352 14 (some .boolean) false 270 ((zc_L_law.drop 270).take 30) = true := by decide +kernel
set_option maxRecDepth 1000000 in
theorem zckl_300 : zchks zc_L_law code 352 14 (some .boolean) false 300 ((zc_L_law.drop 300).take 30) = true := by decide +kernel
set_option maxRecDepth 1000000 in
theorem zckl_330 : zchks zc_L_law code 352 14 (some .boolean) false 330 ((zc_L_law.drop 330).take 30) = true := by decide +kernel
set_option maxRecDepth 1000000 in
theorem zckl_360 : zchks zc_L_law code 352 14 (some .boolean) false 360 ((zc_L_law.drop 360).take 30) = true := by decide +kernel
set_option maxRecDepth 1000000 in
theorem zckl_390 : zchks zc_L_law code 352 14 (some .boolean) false 390 ((zc_L_law.drop 390).take 30) = true := by decide +kernel
set_option maxRecDepth 1000000 in
theorem zckl_420 : zchks zc_L_law code 352 14 (some .boolean) false 420 ((zc_L_law.drop 420).take 30) = true := by decide +kernel
set_option maxRecDepth 1000000 in
theorem zckl_450 : zchks zc_L_law code 352 14 (some .boolean) false 450 ((zc_L_law.drop 450).take 30) = true := by decide +kernel
set_option maxRecDepth 1000000 in
theorem zckl_480 : zchks zc_L_law code 352 14 (some .boolean) false 480 ((zc_L_law.drop 480).take 30) = true := by decide +kernel
set_option maxRecDepth 1000000 in
theorem zckl_510 : zchks zc_L_law code 352 14 (some .boolean) false 510 ((zc_L_law.drop 510).take 30) = true := by decide +kernel
set_option maxRecDepth 1000000 in
theorem zckl_540 : zchks zc_L_law code 352 14 (some .boolean) false 540 ((zc_L_law.drop 540).take 30) = true := by decide +kernel
set_option maxRecDepth 1000000 in
theorem zckl_570 : zchks zc_L_law code 352 14 (some .boolean) false 570 ((zc_L_law.drop 570).take 30) = true := by decide +kernel
set_option maxRecDepth 1000000 in
theorem zckl_600 : zchks zc_L_law code 352 14 (some .boolean) false 600 ((zc_L_law.drop 600).take 30) = true := by decide +kernel
set_option maxRecDepth 1000000 in
theorem zckl_630 : zchks zc_L_law code 352 14 (some .boolean) false 630 ((zc_L_law.drop 630).take 30) = true := by decide +kernel
set_option maxRecDepth 1000000 in
theorem zckl_660 : zchks zc_L_law code 352 14 (some .boolean) false 660 ((zc_L_law.drop 660).take 30) = true := by decide +kernel
set_option maxRecDepth 1000000 in
theorem zckl_690 : zchks zc_L_law code 352 14 (some .boolean) false 690 ((zc_L_law.drop 690).take 30) = true := by decide +kernel
set_option maxRecDepth 1000000 in
theorem zckl_720 : zchks zc_L_law code 352 14 (some .boolean) false 720 ((zc_L_law.drop 720).take 30) = true := by decide +kernel
set_option maxRecDepth 1000000 in
theorem zckl_750 : zchks zc_L_law code 352 14 (some .boolean) false 750 ((zc_L_law.drop 750).take 30) = true := by decide +kernel
set_option maxRecDepth 1000000 in
theorem zckl_780 : zchks zc_L_law code 352 14 (some .boolean) false 780 ((zc_L_law.drop 780).take 30) = true := by decide +kernel
set_option maxRecDepth 1000000 in
theorem zckl_810 : zchks zc_L_law code 352 14 (some .boolean) false 810 ((zc_L_law.drop 810).take 30) = true := by decide +kernel
set_option maxRecDepth 1000000 in
theorem zckl_840 : zchks zc_L_law code 352 14 (some .boolean) false 840 ((zc_L_law.drop 840).take 30) = true := by decide +kernel
set_option maxRecDepth 1000000 in
theorem zckl_870 : zchks zc_L_law code 352 14 (some .boolean) false 870 ((zc_L_law.drop 870).take 30) = true := by decide +kernel
set_option maxRecDepth 1000000 in
theorem zckl_900 : zchks zc_L_law code 352 14 (some .boolean) false 900 ((zc_L_law.drop 900).take 30) = true := by decide +kernel
set_option maxRecDepth 1000000 in
theorem zckl_930 : zchks zc_L_law code 352 14 (some .boolean) false 930 ((zc_L_law.drop 930).take 30) = true := by decide +kernel
set_option maxRecDepth 1000000 in
theorem zckl_960 : zchks zc_L_law code 352 14 (some .boolean) false 960 ((zc_L_law.drop 960).take 30) = true := by decide +kernel
set_option maxRecDepth 1000000 in
theorem zckl_990 : zchks zc_L_law code 352 14 (some .boolean) false 990 ((zc_L_law.drop 990).take 30) = true := by decide +kernel
set_option maxRecDepth 1000000 in
theorem zckl_1020 : zchks zc_L_law code 352 14 (some .boolean) false 1020 ((zc_L_law.drop 1020).take 30) = true := by decide +kernel
set_option maxRecDepth 1000000 in
theorem zckl_1050 : zchks zc_L_law code 352 14 (some .boolean) false 1050 ((zc_L_law.drop 1050).take 30) = true := by decide +kernel
set_option maxRecDepth 1000000 in
theorem zckl_1080 : zchks zc_L_law code 352 14 (some .boolean) false 1080 ((zc_L_law.drop 1080).take 30) = true := by decide +kernel
set_option maxRecDepth 1000000 in
theorem zckl_1110 : zchks zc_L_law code 352 14 (some .boolean) false 1110 ((zc_L_law.drop 1110).take 30) = true := by decide +kernel
set_option maxRecDepth 1000000 in
theorem zckl_1140 : zchks zc_L_law code 352 14 (some .boolean) false 1140 ((zc_L_law.drop 1140).take 30) = true := by decide +kernel
set_option maxRecDepth 1000000 in
theorem zckl_1170 : zchks zc_L_law code 352 14 (some .boolean) false 1170 ((zc_L_law.drop 1170).take 30) = true := by decide +kernel
set_option maxRecDepth 1000000 in
theorem zckl_1200 : zchks zc_L_law code 352 14 (some .boolean) false 1200 ((zc_L_law.drop 1200).take 30) = true := by decide +kernel
set_option maxRecDepth 1000000 in
theorem zckl_1230 : zchks zc_L_law code 352 14 (some .boolean) false 1230 ((zc_L_law.drop 1230).take 30) = true := by decide +kernel
set_option maxRecDepth 1000000 in
theorem zckl_1260 : zchks zc_L_law code 352 14 (some .boolean) false 1260 ((zc_L_law.drop 1260).take 30) = true := by decide +kernel
set_option maxRecDepth 1000000 in
theorem zckl_1290 : zchks zc_L_law code 352 14 (some .boolean) false 1290 ((zc_L_law.drop 1290).take 30) = true := by decide +kernel
set_option maxRecDepth 1000000 in
theorem zckl_1320 : zchks zc_L_law code 352 14 (some .boolean) false 1320 ((zc_L_law.drop 1320).take 30) = true := by decide +kernel
set_option maxRecDepth 1000000 in
theorem zckl_1350 : zchks zc_L_law code 352 14 (some .boolean) false 1350 ((zc_L_law.drop 1350).take 30) = true := by decide +kernel
set_option maxRecDepth 1000000 in
theorem zckl_1380 : zchks zc_L_law code 352 14 (some .boolean) false 1380 ((zc_L_law.drop 1380).take 30) = true := by decide +kernel
set_option maxRecDepth 1000000 in
theorem zckl_1410 : zchks zc_L_law code 352 14 (some .boolean) false 1410 ((zc_L_law.drop 1410).take 30) = true := by decide +kernel
set_option maxRecDepth 1000000 in
theorem zckl_1440 : zchks zc_L_law code 352 14 (some .boolean) false 1440 ((zc_L_law.drop 1440).take 30) = true := by decide +kernel
set_option maxRecDepth 1000000 in
theorem zckl_1470 : zchks zc_L_law code 352 14 (some .boolean) false 1470 ((zc_L_law.drop 1470).take 30) = true := by decide +kernel
set_option maxRecDepth 1000000 in
theorem zckl_1500 : zchks zc_L_law code 352 14 (some .boolean) false 1500 ((zc_L_law.drop 1500).take 30) = true := by decide +kernel
set_option maxRecDepth 1000000 in
theorem zckN_1530 : zckN 1530 := by unfold zckN; decide +kernel
theorem zckN_1500 : zckN 1500 := zckN_cut 30 zckl_1500 zckN_1530
theorem zckN_1470 : zckN 1470 := zckN_cut 30 zckl_1470 zckN_1500
theorem zckN_1440 : zckN 1440 := zckN_cut 30 zckl_1440 zckN_1470
theorem zckN_1410 : zckN 1410 := zckN_cut 30 zckl_1410 zckN_1440
theorem zckN_1380 : zckN 1380 := zckN_cut 30 zckl_1380 zckN_1410
theorem zckN_1350 : zckN 1350 := zckN_cut 30 zckl_1350 zckN_1380
theorem zckN_1320 : zckN 1320 := zckN_cut 30 zckl_1320 zckN_1350
theorem zckN_1290 : zckN 1290 := zckN_cut 30 zckl_1290 zckN_1320
theorem zckN_1260 : zckN 1260 := zckN_cut 30 zckl_1260 zckN_1290
theorem zckN_1230 : zckN 1230 := zckN_cut 30 zckl_1230 zckN_1260
theorem zckN_1200 : zckN 1200 := zckN_cut 30 zckl_1200 zckN_1230
theorem zckN_1170 : zckN 1170 := zckN_cut 30 zckl_1170 zckN_1200
theorem zckN_1140 : zckN 1140 := zckN_cut 30 zckl_1140 zckN_1170
theorem zckN_1110 : zckN 1110 := zckN_cut 30 zckl_1110 zckN_1140
theorem zckN_1080 : zckN 1080 := zckN_cut 30 zckl_1080 zckN_1110
theorem zckN_1050 : zckN 1050 := zckN_cut 30 zckl_1050 zckN_1080
theorem zckN_1020 : zckN 1020 := zckN_cut 30 zckl_1020 zckN_1050
theorem zckN_990 : zckN 990 := zckN_cut 30 zckl_990 zckN_1020
theorem zckN_960 : zckN 960 := zckN_cut 30 zckl_960 zckN_990
theorem zckN_930 : zckN 930 := zckN_cut 30 zckl_930 zckN_960
theorem zckN_900 : zckN 900 := zckN_cut 30 zckl_900 zckN_930
theorem zckN_870 : zckN 870 := zckN_cut 30 zckl_870 zckN_900
theorem zckN_840 : zckN 840 := zckN_cut 30 zckl_840 zckN_870
theorem zckN_810 : zckN 810 := zckN_cut 30 zckl_810 zckN_840
theorem zckN_780 : zckN 780 := zckN_cut 30 zckl_780 zckN_810
theorem zckN_750 : zckN 750 := zckN_cut 30 zckl_750 zckN_780
theorem zckN_720 : zckN 720 := zckN_cut 30 zckl_720 zckN_750
theorem zckN_690 : zckN 690 := zckN_cut 30 zckl_690 zckN_720
theorem zckN_660 : zckN 660 := zckN_cut 30 zckl_660 zckN_690
theorem zckN_630 : zckN 630 := zckN_cut 30 zckl_630 zckN_660
theorem zckN_600 : zckN 600 := zckN_cut 30 zckl_600 zckN_630
theorem zckN_570 : zckN 570 := zckN_cut 30 zckl_570 zckN_600
theorem zckN_540 : zckN 540 := zckN_cut 30 zckl_540 zckN_570
theorem zckN_510 : zckN 510 := zckN_cut 30 zckl_510 zckN_540
theorem zckN_480 : zckN 480 := zckN_cut 30 zckl_480 zckN_510
theorem zckN_450 : zckN 450 := zckN_cut 30 zckl_450 zckN_480
theorem zckN_420 : zckN 420 := zckN_cut 30 zckl_420 zckN_450
theorem zckN_390 : zckN 390 := zckN_cut 30 zckl_390 zckN_420
theorem zckN_360 : zckN 360 := zckN_cut 30 zckl_360 zckN_390
theorem zckN_330 : zckN 330 := zckN_cut 30 zckl_330 zckN_360
theorem zckN_300 : zckN 300 := zckN_cut 30 zckl_300 zckN_330
theorem zckN_270 : zckN 270 := zckN_cut 30 zckl_270 zckN_300
theorem zckN_240 : zckN 240 := zckN_cut 30 zckl_240 zckN_270
theorem zckN_210 : zckN 210 := zckN_cut 30 zckl_210 zckN_240
theorem zckN_180 : zckN 180 := zckN_cut 30 zckl_180 zckN_210
theorem zckN_150 : zckN 150 := zckN_cut 30 zckl_150 zckN_180
theorem zckN_120 : zckN 120 := zckN_cut 30 zckl_120 zckN_150
theorem zckN_90 : zckN 90 := zckN_cut 30 zckl_90 zckN_120
theorem zckN_60 : zckN 60 := zckN_cut 30 zckl_60 zckN_90
theorem zckN_30 : zckN 30 := zckN_cut 30 zckl_30 zckN_60
theorem zckN_0 : zckN 0 := zckN_cut 30 zckl_0 zckN_30
theorem zck_352 : zchks zc_L_law code 352 14 (some .boolean) false 0 zc_L_law = true := zckN_0
set_option maxRecDepth 1000000 in
theorem zcode_352 : znth zcode 352 = some zc_L_law := rfl
