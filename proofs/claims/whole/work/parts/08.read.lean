def f_X7_clear (o : Nat) (S : GS) : Option GS := (pI (some o) 7 3 0 S fun S1 => (some S1))
def f_J7_fill_53178_5 : Nat → Option Nat → Int32 → Int32 → Int32 → GS → Option GS
  | 0, _, _, _, _, _ => none
  | n + 1, x0, x1, x2, x3, S => (if x3 ≤ x2 then (some S) else (qI x0 x2 x1 S fun S1 => (f_J7_fill_53178_5 n x0 x1 (x2 + 1) x3 S1)))
def f_J7_fill_53178 (x0 : Option Nat) (x1 : Int32) (S : GS) : Option GS := (xl x0 14 S fun v1 => (f_J7_fill_53178_5 fu x0 x1 0 v1 S))
def f_X0_clear (o : Nat) (S : GS) : Option GS := (xR (some o) 0 0 S fun v1 => (c1 v1 7 S (fun o' => f_X7_clear o'  S) fun S3 => (xR (some o) 0 1 S3 fun v4 => (c1 v4 7 S3 (fun o' => f_X7_clear o'  S3) fun S6 => (xR (some o) 0 2 S6 fun v7 => (c1 v7 7 S6 (fun o' => f_X7_clear o'  S6) fun S9 => (xR (some o) 0 3 S9 fun v10 => (b1 (f_J7_fill_53178 v10 1 S9) fun S12 => (pI (some o) 0 4 2 S12 fun S13 => (pI (some o) 0 5 3 S13 fun S14 => (pI (some o) 0 6 30 S14 fun S15 => (some S15))))))))))))
def f_X11_isMark (x0 : Int32) (S : GS) : Option Int32 := (if x0 < 0 then (some 0) else (if 40 < x0 then (some 0) else (some 1)))
def f_X7_cell (o : Nat) (x1 : Int32) (x2 : Int32) (S : GS) : Option Int32 := (if x1 < 0 then (some (-1)) else (xI (some o) 7 3 S fun v1 => (if v1 ≤ x1 then (some (-1)) else (if x2 < 0 then (some (-1)) else (xI (some o) 7 1 S fun v2 => (if x2 < v2 then (xR (some o) 7 2 S fun v3 => (xI (some o) 7 1 S fun v4 => (yI v3 14 ((x1 * v4) + x2) S fun v5 => (some v5)))) else (some (-1))))))))
def f_X0_properAt_57 (k7 : (Int32 → Int32 → Int32 → Int32 → Option Int32)) (o : Nat) (S : GS) (x1 : Int32) (x2 : Int32) (x3 : Int32) (x4 : Int32) : Option Int32 := (k7 x1 x2 x3 (x4 + 1))
def f_X0_properAt_7 (o : Nat) (S : GS) : Nat → Int32 → Int32 → Int32 → Int32 → Option Int32
  | 0, _, _, _, _ => none
  | n + 1, x1, x2, x3, x4 => (xR (some o) 0 2 S fun v1 => (xI v1 7 3 S fun v2 => (if v2 ≤ x4 then (some x3) else (xR (some o) 0 2 S fun v3 => (c1 v3 7 S (fun o' => f_X7_cell o' x4 0 S) fun v4 => (if x1 < v4 then (f_X0_properAt_57 (f_X0_properAt_7 o S n) o S x1 x2 x3 x4) else (if v4 ≤ x2 then (f_X0_properAt_57 (f_X0_properAt_7 o S n) o S x1 x2 x3 x4) else (xR (some o) 0 2 S fun v6 => (c1 v6 7 S (fun o' => f_X7_cell o' x4 1 S) fun v7 => (f_X0_properAt_57 (f_X0_properAt_7 o S n) o S x1 v4 v7 x4))))))))))
def f_X0_properAt (o : Nat) (x1 : Int32) (S : GS) : Option Int32 := (f_X0_properAt_7 o S fu x1 (-1) 0 0)
def f_X0_tellWhole_91 (o : Nat) (S : GS) (x1 : Int32) : Option Int32 := (xR (some o) 0 3 S fun v1 => (yI v1 14 (x1 - 6) S fun v2 => (some v2)))
def f_X0_tellWhole (o : Nat) (x1 : Int32) (S : GS) : Option Int32 := (tsw x1 0 [(xR (some o) 0 0 S fun v1 => (xI v1 7 3 S fun v2 => (some v2))), (xR (some o) 0 1 S fun v3 => (xI v3 7 3 S fun v4 => (some v4))), (xR (some o) 0 2 S fun v5 => (xI v5 7 3 S fun v6 => (some v6))), (xI (some o) 0 4 S fun v7 => (some v7)), (xI (some o) 0 5 S fun v8 => (some v8)), (xI (some o) 0 6 S fun v9 => (some v9)), (f_X0_tellWhole_91 o S x1), (f_X0_tellWhole_91 o S x1), (f_X0_tellWhole_91 o S x1)] (some (-1)))
def f_X0_tell (o : Nat) (x1 : Int32) (S : GS) : Option Int32 := (if x1 < 100 then (if x1 < 40 then (if x1 < 30 then (if x1 < 20 then (if x1 < 10 then (c1 (some o) 0 S (fun o' => f_X0_tellWhole o' x1 S) fun v1 => (some v1)) else (xR (some o) 0 0 S fun v3 => (c1 v3 7 S (fun o' => f_X7_cell o' (x1 - 10) 0 S) fun v4 => (some v4)))) else (xR (some o) 0 0 S fun v6 => (c1 v6 7 S (fun o' => f_X7_cell o' (x1 - 20) 1 S) fun v7 => (some v7)))) else (xR (some o) 0 2 S fun v9 => (c1 v9 7 S (fun o' => f_X7_cell o' (x1 - 30) 0 S) fun v10 => (some v10)))) else (xR (some o) 0 2 S fun v12 => (c1 v12 7 S (fun o' => f_X7_cell o' (x1 - 40) 1 S) fun v13 => (some v13)))) else (b1 (f_X11_isMark (x1 - 100) S) fun v15 => (if v15 = 0 then (some (-1)) else (c1 (some o) 0 S (fun o' => f_X0_properAt o' (x1 - 100) S) fun v17 => (some v17)))))
def f_X7_has (o : Nat) (x1 : Int32) (S : GS) : Option Int32 := (if x1 < 0 then (some 0) else (xI (some o) 7 3 S fun v1 => (if v1 ≤ x1 then (some 0) else (some 1))))
def f_X0_roomsOfAllAreThere_2 (o : Nat) (S : GS) : Nat → Int32 → Option Int32
  | 0, _ => none
  | n + 1, x1 => (xR (some o) 0 1 S fun v1 => (xI v1 7 3 S fun v2 => (if v2 ≤ x1 then (some 1) else (xR (some o) 0 0 S fun v3 => (xR (some o) 0 1 S fun v4 => (c1 v4 7 S (fun o' => f_X7_cell o' x1 0 S) fun v5 => (c1 v3 7 S (fun o' => f_X7_has o' v5 S) fun v7 => (if v7 = 0 then (some 0) else (f_X0_roomsOfAllAreThere_2 o S n (x1 + 1))))))))))
def f_X0_roomsOfAllAreThere (o : Nat) (S : GS) : Option Int32 := (f_X0_roomsOfAllAreThere_2 o S fu 0)
def f_X0_allWeights (o : Nat) (S : GS) : Option Int32 := (xR (some o) 0 3 S fun v1 => (yI v1 14 0 S fun v2 => (xR (some o) 0 3 S fun v3 => (yI v3 14 1 S fun v4 => (xR (some o) 0 3 S fun v5 => (yI v5 14 2 S fun v6 => (some ((v2 + v4) + v6))))))))
def f_X0_markAfter (o : Nat) (x1 : Int32) (x2 : Int32) (S : GS) : Option Int32 := (some (jmax 0 (jmin 40 ((x1 + x2) - 1))))
def f_X0_isNear (o : Nat) (x1 : Int32) (x2 : Int32) (S : GS) : Option Int32 := (xI (some o) 0 4 S fun v1 => (if v1 < (jabs (x1 - x2)) then (some 0) else (some 1)))
def f_X0_fate (o : Nat) (x1 : Int32) (x2 : Int32) (x3 : Int32) (S : GS) : Option Int32 := (xR (some o) 0 1 S fun v1 => (c1 v1 7 S (fun o' => f_X7_cell o' x1 3 S) fun v2 => (if (x2 + x3) ≤ v2 then (xR (some o) 0 1 S fun v4 => (c1 v4 7 S (fun o' => f_X7_cell o' x1 2 S) fun v5 => (if ((x2 + 30) - x3) ≤ v5 then (some 0) else (some 1)))) else (some 2))))
def f_X0_stands (o : Nat) (x1 : Int32) (x2 : Int32) (x3 : Int32) (S : GS) : Option Int32 := (c1 (some o) 0 S (fun o' => f_X0_fate o' x1 x2 x3 S) fun v1 => (if v1 = 0 then (some 1) else (some 0)))
def f_X0_pressureOf (o : Nat) (x1 : Int32) (x2 : Int32) (S : GS) : Option Int32 := (xR (some o) 0 0 S fun v1 => (xR (some o) 0 1 S fun v2 => (c1 v2 7 S (fun o' => f_X7_cell o' x1 0 S) fun v3 => (c1 v1 7 S (fun o' => f_X7_cell o' v3 1 S) fun v5 => (some (x2 - v5))))))
def f_X0_standsAt (o : Nat) (x1 : Int32) (x2 : Int32) (x3 : Int32) (S : GS) : Option Int32 := (c1 (some o) 0 S (fun o' => f_X0_pressureOf o' x1 x3 S) fun v1 => (c1 (some o) 0 S (fun o' => f_X0_fate o' x1 x2 v1 S) fun v3 => (if v3 = 0 then (some 1) else (some 0))))
def f_X0_highestStand_14 (o : Nat) (S : GS) : Nat → Int32 → Int32 → Int32 → Int32 → Option Int32
  | 0, _, _, _, _ => none
  | n + 1, x1, x2, x3, x4 => (if x4 < 0 then (some (-1)) else (c1 (some o) 0 S (fun o' => f_X0_stands o' x1 x3 (x2 - x4) S) fun v1 => (if v1 = 0 then (f_X0_highestStand_14 o S n x1 x2 x3 (x4 + (-1))) else (some x4))))
def f_X0_highestStand (o : Nat) (x1 : Int32) (x2 : Int32) (S : GS) : Option Int32 := (xR (some o) 0 1 S fun v1 => (c1 v1 7 S (fun o' => f_X7_cell o' x1 1 S) fun v2 => (f_X0_highestStand_14 o S fu x1 x2 v2 40)))
def f_X0_roomsToStand_58 (k16 : (Int32 → Int32 → Int32 → Int32 → Int32 → Option Int32)) (o : Nat) (S : GS) (x1 : Int32) (x2 : Int32) (x3 : Int32) (x4 : Int32) (x5 : Int32) : Option Int32 := (k16 x1 x2 x3 x4 (x5 + 1))
def f_X0_roomsToStand_16 (o : Nat) (S : GS) : Nat → Int32 → Int32 → Int32 → Int32 → Int32 → Option Int32
  | 0, _, _, _, _, _ => none
  | n + 1, x1, x2, x3, x4, x5 => (xR (some o) 0 0 S fun v1 => (xI v1 7 3 S fun v2 => (if v2 ≤ x5 then (some x4) else (xR (some o) 0 0 S fun v3 => (c1 v3 7 S (fun o' => f_X7_cell o' x5 1 S) fun v4 => (c1 (some o) 0 S (fun o' => f_X0_stands o' x1 x3 (x2 - v4) S) fun v6 => (if v6 = 0 then (f_X0_roomsToStand_58 (f_X0_roomsToStand_16 o S n) o S x1 x2 x3 x4 x5) else (f_X0_roomsToStand_58 (f_X0_roomsToStand_16 o S n) o S x1 x2 x3 (x4 ||| (jshl 1 x5)) x5))))))))
def f_X0_roomsToStand (o : Nat) (x1 : Int32) (x2 : Int32) (S : GS) : Option Int32 := (xR (some o) 0 1 S fun v1 => (c1 v1 7 S (fun o' => f_X7_cell o' x1 1 S) fun v2 => (f_X0_roomsToStand_16 o S fu x1 x2 v2 0 0)))
def f_X0_freeLaces_26 (k5 : (Int32 → Int32 → Int32 → Int32 → Option Int32)) (o : Nat) (S : GS) (x1 : Int32) (x2 : Int32) (x3 : Int32) (x4 : Int32) : Option Int32 := (k5 x1 x2 x3 (x4 + 1))
def f_X0_freeLaces_5 (o : Nat) (S : GS) : Nat → Int32 → Int32 → Int32 → Int32 → Option Int32
  | 0, _, _, _, _ => none
  | n + 1, x1, x2, x3, x4 => (if 30 < x4 then (some x3) else (c1 (some o) 0 S (fun o' => f_X0_standsAt o' x1 x4 x2 S) fun v1 => (if v1 = 0 then (f_X0_freeLaces_26 (f_X0_freeLaces_5 o S n) o S x1 x2 x3 x4) else (f_X0_freeLaces_26 (f_X0_freeLaces_5 o S n) o S x1 x2 (x3 + 1) x4))))
def f_X0_freeLaces (o : Nat) (x1 : Int32) (x2 : Int32) (S : GS) : Option Int32 := (f_X0_freeLaces_5 o S fu x1 x2 0 0)
def f_X0_leastFree_2 (o : Nat) (S : GS) : Nat → Int32 → Int32 → Int32 → Option Int32
  | 0, _, _, _ => none
  | n + 1, x1, x2, x3 => (if 30 < x3 then (some (-1)) else (c1 (some o) 0 S (fun o' => f_X0_standsAt o' x1 x3 x2 S) fun v1 => (if v1 = 0 then (f_X0_leastFree_2 o S n x1 x2 (x3 + 1)) else (some x3))))
def f_X0_leastFree (o : Nat) (x1 : Int32) (x2 : Int32) (S : GS) : Option Int32 := (f_X0_leastFree_2 o S fu x1 x2 0)
def f_X0_mostFree_3 (o : Nat) (S : GS) : Nat → Int32 → Int32 → Int32 → Option Int32
  | 0, _, _, _ => none
  | n + 1, x1, x2, x3 => (if x3 < 0 then (some (-1)) else (c1 (some o) 0 S (fun o' => f_X0_standsAt o' x1 x3 x2 S) fun v1 => (if v1 = 0 then (f_X0_mostFree_3 o S n x1 x2 (x3 + (-1))) else (some x3))))
def f_X0_mostFree (o : Nat) (x1 : Int32) (x2 : Int32) (S : GS) : Option Int32 := (f_X0_mostFree_3 o S fu x1 x2 30)
def f_X0_calmRow_34 (k8 : (Int32 → Int32 → Int32 → Int32 → Int32 → Option Int32)) (o : Nat) (S : GS) (x1 : Int32) (x2 : Int32) (x3 : Int32) (x5 : Int32) (y0 : Int32) : Option Int32 := (k8 x1 x2 (jmax x3 y0) y0 (x5 + 1))
def f_X0_calmRow_8 (o : Nat) (S : GS) : Nat → Int32 → Int32 → Int32 → Int32 → Int32 → Option Int32
  | 0, _, _, _, _, _ => none
  | n + 1, x1, x2, x3, x4, x5 => (if 40 < x5 then (some x3) else (c1 (some o) 0 S (fun o' => f_X0_standsAt o' x1 x2 x5 S) fun v1 => (if v1 = 0 then (f_X0_calmRow_34 (f_X0_calmRow_8 o S n) o S x1 x2 x3 x5 0) else (f_X0_calmRow_34 (f_X0_calmRow_8 o S n) o S x1 x2 x3 x5 (x4 + 1)))))
def f_X0_calmRow (o : Nat) (x1 : Int32) (x2 : Int32) (S : GS) : Option Int32 := (f_X0_calmRow_8 o S fu x1 x2 0 0 0)
def f_X0_calmestLace_40 (k12 : (Int32 → Int32 → Int32 → Int32 → Option Int32)) (o : Nat) (S : GS) (x1 : Int32) (x2 : Int32) (x3 : Int32) (x4 : Int32) : Option Int32 := (k12 x1 x2 x3 (x4 + 1))
def f_X0_calmestLace_12 (o : Nat) (S : GS) : Nat → Int32 → Int32 → Int32 → Int32 → Option Int32
  | 0, _, _, _, _ => none
  | n + 1, x1, x2, x3, x4 => (if 30 < x4 then (some x2) else (c1 (some o) 0 S (fun o' => f_X0_calmRow o' x1 x4 S) fun v1 => (if v1 ≤ x3 then (f_X0_calmestLace_40 (f_X0_calmestLace_12 o S n) o S x1 x2 x3 x4) else (f_X0_calmestLace_40 (f_X0_calmestLace_12 o S n) o S x1 x4 v1 x4))))
def f_X0_calmestLace (o : Nat) (x1 : Int32) (S : GS) : Option Int32 := (c1 (some o) 0 S (fun o' => f_X0_calmRow o' x1 0 S) fun v1 => (f_X0_calmestLace_12 o S fu x1 0 v1 1))
def f_X7_addRow_23 (o : Nat) : Nat → Int32 → GS → Option GS
  | 0, _, _ => none
  | n + 1, x1, S => (xI (some o) 7 1 S fun v1 => (if v1 ≤ x1 then (some S) else (xR (some o) 7 2 S fun v2 => (xI (some o) 7 3 S fun v3 => (xI (some o) 7 1 S fun v4 => (qI v2 (((v3 - 1) * v4) + x1) (-1) S fun S5 => (f_X7_addRow_23 o n (x1 + 1) S5)))))))
def f_X7_addRow (o : Nat) (S : GS) : Option GS := (xI (some o) 7 3 S fun v1 => (xI (some o) 7 0 S fun v2 => (if v2 ≤ v1 then (some S) else (xI (some o) 7 3 S fun v3 => (pI (some o) 7 3 (v3 + 1) S fun S4 => (f_X7_addRow_23 o fu 0 S4))))))
def f_X7_setLast (o : Nat) (x1 : Int32) (x2 : Int32) (S : GS) : Option GS := (xI (some o) 7 3 S fun v1 => (if v1 ≤ 0 then (some S) else (if x1 < 0 then (some S) else (xI (some o) 7 1 S fun v2 => (if v2 ≤ x1 then (some S) else (xR (some o) 7 2 S fun v3 => (xI (some o) 7 3 S fun v4 => (xI (some o) 7 1 S fun v5 => (qI v3 (((v4 - 1) * v5) + x1) x2 S fun S6 => (some S6))))))))))
def f_X7_hasInColumn_2 (o : Nat) (S : GS) : Nat → Int32 → Int32 → Int32 → Option Int32
  | 0, _, _, _ => none
  | n + 1, x1, x2, x3 => (xI (some o) 7 3 S fun v1 => (if v1 ≤ x3 then (some 0) else (c1 (some o) 7 S (fun o' => f_X7_cell o' x3 x1 S) fun v2 => (if v2 = x2 then (some 1) else (f_X7_hasInColumn_2 o S n x1 x2 (x3 + 1))))))
def f_X7_hasInColumn (o : Nat) (x1 : Int32) (x2 : Int32) (S : GS) : Option Int32 := (f_X7_hasInColumn_2 o S fu x1 x2 0)
