/-! BLOCKS of the abstract run, by program -/
-- yX7_slipOn
theorem q73_69 (r0 : Int) (r1 : Int) (x2 : Int) (r3 : Int) (x4 : Int) (M : zM) (X : zX) : zex 73 69 [] [(2, r0), (2, r1), (0, x2), (2, r3), (0, x4)] M X = zg (zkd X r0 = (13, 0)) (zg (zI ((M r0 6) + (1 : Int))) (zg (zkd X r0 = (13, 0)) (zex 73 75 [] [(2, r0), (2, r1), (0, x2), (2, r3), (0, x4)] (zu M r0 6 ((M r0 6) + (1 : Int))) X))) :=
  (zblk 73 zc73 rfl [30, 38, 50, 60, 69, 75] 77 69 _ _ _ _).trans rfl
-- yX7_slipOn
theorem q73_75 (r0 : Int) (r1 : Int) (x2 : Int) (r3 : Int) (x4 : Int) (M : zM) (X : zX) : zex 73 75 [] [(2, r0), (2, r1), (0, x2), (2, r3), (0, x4)] M X = some ((9, 0), M, X) :=
  (zblk 73 zc73 rfl [30, 38, 50, 60, 69, 75] 77 75 _ _ _ _).trans rfl
-- yX8_init
theorem q74_0 (r0 : Int) (M : zM) (X : zX) : zex 74 0 [] [(2, r0)] M X = zg (0 ≤ (64 : Int) ∧ (64 : Int) ≤ 65536 ∧ 1 ≤ X.2.1 ∧ Int.toNat (64 : Int) ≤ X.2.2) (zg (zkd (X.1 ++ [(1, Int.toNat (64 : Int))], X.2.1 - 1, X.2.2 - Int.toNat (64 : Int)) r0 = (14, 0)) (zex 74 6 [] [(2, r0)] (zu (zclr M ((X.1.length : Int) + 1)) r0 2 ((X.1.length : Int) + 1)) (X.1 ++ [(1, Int.toNat (64 : Int))], X.2.1 - 1, X.2.2 - Int.toNat (64 : Int)))) :=
  (zblk 74 zc74 rfl [6, 11] 13 0 _ _ _ _).trans rfl
-- yX8_init
theorem q74_6 (r0 : Int) (M : zM) (X : zX) : zex 74 6 [] [(2, r0)] M X = zg (1 ≤ X.2.1 ∧ 4 ≤ X.2.2) (zg (zkd (X.1 ++ [(6, 0)], X.2.1 - 1, X.2.2 - 4) ((X.1.length : Int) + 1) = (6, 0)) (zbN (zex 0 0 [] [(2, ((X.1.length : Int) + 1)), (9, 0)] (zclr M ((X.1.length : Int) + 1)) (X.1 ++ [(6, 0)], X.2.1 - 1, X.2.2 - 4)) (fun M1 X1 => zg (zkd X1 r0 = (14, 0)) (zex 74 11 [] [(2, r0)] (zu M1 r0 3 ((X.1.length : Int) + 1)) X1)))) :=
  (zblk 74 zc74 rfl [6, 11] 13 6 _ _ _ _).trans rfl
-- yX8_init
theorem q74_11 (r0 : Int) (M : zM) (X : zX) : zex 74 11 [] [(2, r0)] M X = some ((9, 0), M, X) :=
  (zblk 74 zc74 rfl [6, 11] 13 11 _ _ _ _).trans rfl
-- yX8_isRow
theorem q75_0 (r0 : Int) (M : zM) (X : zX) : zex 75 0 [] [(2, r0)] M X = zg (zkd X r0 = (14, 0)) (if (M r0 0) = 0 then zex 75 9 [] [(2, r0)] M X else zg (zkd X r0 = (14, 0)) (if (M r0 0) = (5 : Int) then zex 75 9 [] [(2, r0)] M X else zex 75 10 [(0, (1 : Int))] [(2, r0)] M X)) :=
  (zblk 75 zc75 rfl [9, 10] 12 0 _ _ _ _).trans rfl
-- yX8_isRow
theorem q75_9 (r0 : Int) (M : zM) (X : zX) : zex 75 9 [] [(2, r0)] M X = zex 75 10 [(0, (0 : Int))] [(2, r0)] M X :=
  (zblk 75 zc75 rfl [9, 10] 12 9 _ _ _ _).trans rfl
-- yX8_isRow
theorem q75_10 (s0 : Int) (r0 : Int) (M : zM) (X : zX) : zex 75 10 [(0, s0)] [(2, r0)] M X = zg (s0 = 0 ∨ s0 = 1) (some ((0, s0), M, X)) :=
  (zblk 75 zc75 rfl [9, 10] 12 10 _ _ _ _).trans rfl
-- yX8_becomeRow
theorem q76_0 (r0 : Int) (x1 : Int) (x2 : Int) (M : zM) (X : zX) : zex 76 0 [] [(2, r0), (0, x1), (0, x2)] M X = zg (zkd X r0 = (14, 0)) (zg (zkd X r0 = (14, 0)) (zg (zkd X r0 = (14, 0) ∧ 0 < ((zu (zu M r0 0 x1) r0 1 x2) r0 2)) (zbN (zex 222 0 [] [(2, ((zu (zu M r0 0 x1) r0 1 x2) r0 2)), (1, (0 : Int)), (9, 0), (9, 0), (9, 0)] (zu (zu M r0 0 x1) r0 1 x2) X) (fun M1 X1 => some ((9, 0), M1, X1))))) :=
  (zblk 76 zc76 rfl [] 12 0 _ _ _ _).trans rfl
-- yX8_hasPlaces
theorem q77_0 (r0 : Int) (x1 : Int) (x2 : Int) (M : zM) (X : zX) : zex 77 0 [] [(2, r0), (0, x1), (0, x2)] M X = if x1 < 0 then zex 77 16 [] [(2, r0), (0, x1), (0, x2)] M X else if x2 < 0 then zex 77 16 [] [(2, r0), (0, x1), (0, x2)] M X else zg (zkd X r0 = (14, 0)) (if (M r0 1) < x2 then zex 77 16 [] [(2, r0), (0, x1), (0, x2)] M X else zg (zkd X r0 = (14, 0)) (zg (zI ((M r0 1) - x2)) (if ((M r0 1) - x2) < x1 then zex 77 16 [] [(2, r0), (0, x1), (0, x2)] M X else zex 77 17 [(0, (1 : Int))] [(2, r0), (0, x1), (0, x2)] M X))) :=
  (zblk 77 zc77 rfl [16, 17] 19 0 _ _ _ _).trans rfl
-- yX8_hasPlaces
theorem q77_16 (r0 : Int) (x1 : Int) (x2 : Int) (M : zM) (X : zX) : zex 77 16 [] [(2, r0), (0, x1), (0, x2)] M X = zex 77 17 [(0, (0 : Int))] [(2, r0), (0, x1), (0, x2)] M X :=
  (zblk 77 zc77 rfl [16, 17] 19 16 _ _ _ _).trans rfl
-- yX8_hasPlaces
theorem q77_17 (s0 : Int) (r0 : Int) (x1 : Int) (x2 : Int) (M : zM) (X : zX) : zex 77 17 [(0, s0)] [(2, r0), (0, x1), (0, x2)] M X = zg (s0 = 0 ∨ s0 = 1) (some ((0, s0), M, X)) :=
  (zblk 77 zc77 rfl [16, 17] 19 17 _ _ _ _).trans rfl
-- yX8_narrowed
theorem q78_0 (x0 : Int) (x2 : Int) (M : zM) (X : zX) : zex 78 0 [] [(1, x0), (9, 0), (0, x2)] M X = if x2 = (1 : Int) then some ((1, (Int.bmod (Int.bmod x0 4294967296) 256)), M, X) else if x2 = (2 : Int) then some ((1, (Int.bmod (Int.bmod x0 4294967296) 65536)), M, X) else if x2 = (3 : Int) then some ((1, (Int.bmod x0 4294967296)), M, X) else some ((1, x0), M, X) :=
  (zblk 78 zc78 rfl [] 19 0 _ _ _ _).trans rfl
-- yX9_init
theorem q79_0 (r0 : Int) (M : zM) (X : zX) : zex 79 0 [] [(2, r0)] M X = zg (0 ≤ (30 : Int) ∧ (30 : Int) ≤ 65536 ∧ 1 ≤ X.2.1 ∧ Int.toNat (30 : Int) ≤ X.2.2) (zg (zkd (X.1 ++ [(0, Int.toNat (30 : Int))], X.2.1 - 1, X.2.2 - Int.toNat (30 : Int)) r0 = (15, 0)) (zex 79 6 [] [(2, r0)] (zu (zclr M ((X.1.length : Int) + 1)) r0 0 ((X.1.length : Int) + 1)) (X.1 ++ [(0, Int.toNat (30 : Int))], X.2.1 - 1, X.2.2 - Int.toNat (30 : Int)))) :=
  (zblk 79 zc79 rfl [6] 8 0 _ _ _ _).trans rfl
-- yX9_init
theorem q79_6 (r0 : Int) (M : zM) (X : zX) : zex 79 6 [] [(2, r0)] M X = some ((9, 0), M, X) :=
  (zblk 79 zc79 rfl [6] 8 6 _ _ _ _).trans rfl
-- yX9_reset
theorem q80_0 (r0 : Int) (M : zM) (X : zX) : zex 80 0 [] [(2, r0)] M X = zg (zkd X r0 = (15, 0) ∧ 0 < (M r0 0)) (zg ((zkd X (M r0 0)).1 = 0 ∧ 0 ≤ (0 : Int) ∧ (0 : Int) < ((zkd X (M r0 0)).2 : Int)) (zex 80 5 [] [(2, r0)] (zu M (M r0 0) (0 : Int) (1 : Int)) X)) :=
  (zblk 80 zc80 rfl [5, 8, 11, 14] 16 0 _ _ _ _).trans rfl
-- yX9_reset
theorem q80_5 (r0 : Int) (M : zM) (X : zX) : zex 80 5 [] [(2, r0)] M X = zg (zkd X r0 = (15, 0)) (zex 80 8 [] [(2, r0)] (zu M r0 1 (1 : Int)) X) :=
  (zblk 80 zc80 rfl [5, 8, 11, 14] 16 5 _ _ _ _).trans rfl
-- yX9_reset
theorem q80_8 (r0 : Int) (M : zM) (X : zX) : zex 80 8 [] [(2, r0)] M X = zg (zkd X r0 = (15, 0)) (zex 80 11 [] [(2, r0)] (zu M r0 2 (9 : Int)) X) :=
  (zblk 80 zc80 rfl [5, 8, 11, 14] 16 8 _ _ _ _).trans rfl
-- yX9_reset
theorem q80_11 (r0 : Int) (M : zM) (X : zX) : zex 80 11 [] [(2, r0)] M X = zg (zkd X r0 = (15, 0)) (zex 80 14 [] [(2, r0)] (zu M r0 3 (2000 : Int)) X) :=
  (zblk 80 zc80 rfl [5, 8, 11, 14] 16 11 _ _ _ _).trans rfl
-- yX9_reset
theorem q80_14 (r0 : Int) (M : zM) (X : zX) : zex 80 14 [] [(2, r0)] M X = some ((9, 0), M, X) :=
  (zblk 80 zc80 rfl [5, 8, 11, 14] 16 14 _ _ _ _).trans rfl
-- yX9_isSand
theorem q81_0 (r0 : Int) (x1 : Int) (d2 : zV) (d3 : zV) (M : zM) (X : zX) : zex 81 0 [] [(2, r0), (0, x1), d2, d3] M X = zex 81 4 [] [(2, r0), (0, x1), (0, (0 : Int)), (0, (0 : Int))] M X :=
  (zblk 81 zc81 rfl [4, 23, 33, 36, 39] 42 0 _ _ _ _).trans rfl
-- yX9_isSand
theorem q81_4 (r0 : Int) (x1 : Int) (x2 : Int) (x3 : Int) (M : zM) (X : zX) : zex 81 4 [] [(2, r0), (0, x1), (0, x2), (0, x3)] M X = if x1 ≤ x3 then zex 81 39 [] [(2, r0), (0, x1), (0, x2), (0, x3)] M X else zg ((zkd X r0).1 = 1 ∧ (zkd X r0).2 ≤ 65536) (if ((zkd X r0).2 : Int) ≤ x3 then zex 81 39 [] [(2, r0), (0, x1), (0, x2), (0, x3)] M X else zg ((zkd X r0).1 = 1 ∧ 0 ≤ x3 ∧ x3 < ((zkd X r0).2 : Int)) (if (zcmp (M r0 x3) (0 : Int)) < 0 then zex 81 23 [] [(2, r0), (0, x1), (0, x2), (0, x3)] M X else zg ((zkd X r0).1 = 1 ∧ 0 ≤ x3 ∧ x3 < ((zkd X r0).2 : Int)) (if (zcmp (M r0 x3) (9 : Int)) ≤ 0 then if x2 = 0 then zg ((zkd X r0).1 = 1 ∧ 0 ≤ x3 ∧ x3 < ((zkd X r0).2 : Int)) (if (zcmp (M r0 x3) (0 : Int)) ≤ 0 then zex 81 36 [(0, (0 : Int))] [(2, r0), (0, x1), (0, x2), (0, x3)] M X else zex 81 33 [] [(2, r0), (0, x1), (0, x2), (0, x3)] M X) else zex 81 33 [] [(2, r0), (0, x1), (0, x2), (0, x3)] M X else zex 81 23 [] [(2, r0), (0, x1), (0, x2), (0, x3)] M X))) :=
  (zblk 81 zc81 rfl [4, 23, 33, 36, 39] 42 4 _ _ _ _).trans rfl
-- yX9_isSand
theorem q81_23 (r0 : Int) (x1 : Int) (x2 : Int) (x3 : Int) (M : zM) (X : zX) : zex 81 23 [] [(2, r0), (0, x1), (0, x2), (0, x3)] M X = zg ((0 : Int) = 0 ∨ (0 : Int) = 1) (some ((0, (0 : Int)), M, X)) :=
  (zblk 81 zc81 rfl [4, 23, 33, 36, 39] 42 23 _ _ _ _).trans rfl
-- yX9_isSand
theorem q81_33 (r0 : Int) (x1 : Int) (x2 : Int) (x3 : Int) (M : zM) (X : zX) : zex 81 33 [] [(2, r0), (0, x1), (0, x2), (0, x3)] M X = zex 81 36 [(0, (1 : Int))] [(2, r0), (0, x1), (0, x2), (0, x3)] M X :=
  (zblk 81 zc81 rfl [4, 23, 33, 36, 39] 42 33 _ _ _ _).trans rfl
-- yX9_isSand
theorem q81_36 (s0 : Int) (r0 : Int) (x1 : Int) (x2 : Int) (x3 : Int) (M : zM) (X : zX) : zex 81 36 [(0, s0)] [(2, r0), (0, x1), (0, x2), (0, x3)] M X = zg (zI (x3 + (1 : Int))) (zex 81 4 [] [(2, r0), (0, x1), (0, s0), (0, (x3 + (1 : Int)))] M X) :=
  (zblk 81 zc81 rfl [4, 23, 33, 36, 39] 42 36 _ _ _ _).trans rfl
-- yX9_isSand
theorem q81_39 (r0 : Int) (x1 : Int) (x2 : Int) (x3 : Int) (M : zM) (X : zX) : zex 81 39 [] [(2, r0), (0, x1), (0, x2), (0, x3)] M X = zg (x2 = 0 ∨ x2 = 1) (some ((0, x2), M, X)) :=
  (zblk 81 zc81 rfl [4, 23, 33, 36, 39] 42 39 _ _ _ _).trans rfl
-- yX9_takeSand
theorem q82_0 (r0 : Int) (r1 : Int) (x2 : Int) (d3 : zV) (M : zM) (X : zX) : zex 82 0 [] [(2, r0), (2, r1), (0, x2), d3] M X = zbI (zex 221 0 [] [(0, x2), (0, (30 : Int))] M X) (fun v1 M1 X1 => zg (zkd X1 r0 = (15, 0)) (zex 82 7 [] [(2, r0), (2, r1), (0, x2), (0, (0 : Int))] (zu M1 r0 1 v1) X1)) :=
  (zblk 82 zc82 rfl [7, 25] 27 0 _ _ _ _).trans rfl
-- yX9_takeSand
theorem q82_7 (r0 : Int) (r1 : Int) (x2 : Int) (x3 : Int) (M : zM) (X : zX) : zex 82 7 [] [(2, r0), (2, r1), (0, x2), (0, x3)] M X = zg (zkd X r0 = (15, 0)) (if (M r0 1) ≤ x3 then zex 82 25 [] [(2, r0), (2, r1), (0, x2), (0, x3)] M X else zg ((zkd X r1).1 = 1 ∧ (zkd X r1).2 ≤ 65536) (if ((zkd X r1).2 : Int) ≤ x3 then zex 82 25 [] [(2, r0), (2, r1), (0, x2), (0, x3)] M X else zg (zkd X r0 = (15, 0) ∧ 0 < (M r0 0)) (zg ((zkd X r1).1 = 1 ∧ 0 ≤ x3 ∧ x3 < ((zkd X r1).2 : Int)) (zg ((zkd X (M r0 0)).1 = 0 ∧ 0 ≤ x3 ∧ x3 < ((zkd X (M r0 0)).2 : Int)) (zg (zI (x3 + (1 : Int))) (zex 82 7 [] [(2, r0), (2, r1), (0, x2), (0, (x3 + (1 : Int)))] (zu M (M r0 0) x3 (Int.bmod (M r1 x3) 4294967296)) X)))))) :=
  (zblk 82 zc82 rfl [7, 25] 27 7 _ _ _ _).trans rfl
-- yX9_takeSand
theorem q82_25 (r0 : Int) (r1 : Int) (x2 : Int) (x3 : Int) (M : zM) (X : zX) : zex 82 25 [] [(2, r0), (2, r1), (0, x2), (0, x3)] M X = some ((9, 0), M, X) :=
  (zblk 82 zc82 rfl [7, 25] 27 25 _ _ _ _).trans rfl
-- yX9_sandOf
theorem q83_0 (r0 : Int) (x1 : Int) (M : zM) (X : zX) : zex 83 0 [] [(2, r0), (0, x1)] M X = zg (zkd X r0 = (15, 0)) (if (M r0 1) ≤ 0 then zex 83 13 [] [(2, r0), (0, x1)] M X else if x1 < 0 then zex 83 13 [] [(2, r0), (0, x1)] M X else zg (zkd X r0 = (15, 0) ∧ 0 < (M r0 0)) (zg (zkd X r0 = (15, 0)) (zg (0 < (M r0 1)) (zg ((zkd X (M r0 0)).1 = 0 ∧ 0 ≤ (Int.tmod x1 (M r0 1)) ∧ (Int.tmod x1 (M r0 1)) < ((zkd X (M r0 0)).2 : Int)) (zex 83 14 [(0, (M (M r0 0) (Int.tmod x1 (M r0 1))))] [(2, r0), (0, x1)] M X))))) :=
  (zblk 83 zc83 rfl [13, 14] 16 0 _ _ _ _).trans rfl
-- yX9_sandOf
theorem q83_13 (r0 : Int) (x1 : Int) (M : zM) (X : zX) : zex 83 13 [] [(2, r0), (0, x1)] M X = zex 83 14 [(0, (0 : Int))] [(2, r0), (0, x1)] M X :=
  (zblk 83 zc83 rfl [13, 14] 16 13 _ _ _ _).trans rfl
-- yX9_sandOf
theorem q83_14 (s0 : Int) (r0 : Int) (x1 : Int) (M : zM) (X : zX) : zex 83 14 [(0, s0)] [(2, r0), (0, x1)] M X = some ((0, s0), M, X) :=
  (zblk 83 zc83 rfl [13, 14] 16 14 _ _ _ _).trans rfl
-- yX10_init
theorem q84_0 (r0 : Int) (r1 : Int) (d2 : zV) (M : zM) (X : zX) : zex 84 0 [] [(2, r0), (2, r1), d2] M X = zg (0 ≤ (3 : Int) ∧ (3 : Int) ≤ 1024 ∧ 0 ≤ (20 : Int) ∧ (20 : Int) ≤ 1024 ∧ 1 + Int.toNat (3 : Int) ≤ X.2.1 ∧ Int.toNat (3 : Int) + Int.toNat (3 : Int) * Int.toNat (20 : Int) ≤ X.2.2) (zg (zkd (X.1 ++ (5, Int.toNat (3 : Int)) :: List.replicate (Int.toNat (3 : Int)) (0, Int.toNat (20 : Int)), X.2.1 - (1 + Int.toNat (3 : Int)), X.2.2 - (Int.toNat (3 : Int) + Int.toNat (3 : Int) * Int.toNat (20 : Int))) r0 = (16, 0)) (zex 84 7 [] [(2, r0), (2, r1), d2] (zu (zmul M ((X.1.length : Int) + 1) (3 : Int)) r0 2 ((X.1.length : Int) + 1)) (X.1 ++ (5, Int.toNat (3 : Int)) :: List.replicate (Int.toNat (3 : Int)) (0, Int.toNat (20 : Int)), X.2.1 - (1 + Int.toNat (3 : Int)), X.2.2 - (Int.toNat (3 : Int) + Int.toNat (3 : Int) * Int.toNat (20 : Int))))) :=
  (zblk 84 zc84 rfl [7, 11, 14, 16] 30 0 _ _ _ _).trans rfl
-- yX10_init
theorem q84_7 (r0 : Int) (r1 : Int) (d2 : zV) (M : zM) (X : zX) : zex 84 7 [] [(2, r0), (2, r1), d2] M X = zg (0 ≤ (3 : Int) ∧ (3 : Int) ≤ 65536 ∧ 1 ≤ X.2.1 ∧ Int.toNat (3 : Int) ≤ X.2.2) (zg (zkd (X.1 ++ [(3, Int.toNat (3 : Int))], X.2.1 - 1, X.2.2 - Int.toNat (3 : Int)) r0 = (16, 0)) (zex 84 11 [] [(2, r0), (2, r1), d2] (zu (zclr M ((X.1.length : Int) + 1)) r0 3 ((X.1.length : Int) + 1)) (X.1 ++ [(3, Int.toNat (3 : Int))], X.2.1 - 1, X.2.2 - Int.toNat (3 : Int)))) :=
  (zblk 84 zc84 rfl [7, 11, 14, 16] 30 7 _ _ _ _).trans rfl
-- yX10_init
theorem q84_11 (r0 : Int) (r1 : Int) (d2 : zV) (M : zM) (X : zX) : zex 84 11 [] [(2, r0), (2, r1), d2] M X = zg (zkd X r0 = (16, 0)) (zex 84 14 [] [(2, r0), (2, r1), d2] (zu M r0 0 r1) X) :=
  (zblk 84 zc84 rfl [7, 11, 14, 16] 30 11 _ _ _ _).trans rfl
-- yX10_init
theorem q84_14 (r0 : Int) (r1 : Int) (d2 : zV) (M : zM) (X : zX) : zex 84 14 [] [(2, r0), (2, r1), d2] M X = zex 84 16 [] [(2, r0), (2, r1), (0, (0 : Int))] M X :=
  (zblk 84 zc84 rfl [7, 11, 14, 16] 30 14 _ _ _ _).trans rfl
-- yX10_init
theorem q84_16 (r0 : Int) (r1 : Int) (x2 : Int) (M : zM) (X : zX) : zex 84 16 [] [(2, r0), (2, r1), (0, x2)] M X = if (3 : Int) ≤ x2 then some ((9, 0), M, X) else zg (zkd X r0 = (16, 0) ∧ 0 < (M r0 3)) (zg (1 ≤ X.2.1 ∧ 4 ≤ X.2.2) (zg (zkd (X.1 ++ [(7, 0)], X.2.1 - 1, X.2.2 - 4) ((X.1.length : Int) + 1) = (7, 0)) (zbN (zex 8 0 [] [(2, ((X.1.length : Int) + 1))] (zclr M ((X.1.length : Int) + 1)) (X.1 ++ [(7, 0)], X.2.1 - 1, X.2.2 - 4)) (fun M1 X1 => zg ((zkd X1 (M r0 3)).1 = 3 ∧ 0 ≤ x2 ∧ x2 < ((zkd X1 (M r0 3)).2 : Int) ∧ zkd X1 ((X.1.length : Int) + 1) = (7, 0)) (zg (zI (x2 + (1 : Int))) (zex 84 16 [] [(2, r0), (2, r1), (0, (x2 + (1 : Int)))] (zu M1 (M r0 3) x2 ((X.1.length : Int) + 1)) X1)))))) :=
  (zblk 84 zc84 rfl [7, 11, 14, 16] 30 16 _ _ _ _).trans rfl
-- yX10_add
theorem q85_0 (r0 : Int) (x1 : Int) (x2 : Int) (x3 : Int) (M : zM) (X : zX) : zex 85 0 [] [(2, r0), (0, x1), (0, x2), (0, x3)] M X = zg (zkd X r0 = (16, 0)) (if (20 : Int) ≤ (M r0 1) then zex 85 34 [] [(2, r0), (0, x1), (0, x2), (0, x3)] M X else zg (zkd X r0 = (16, 0) ∧ 0 < (M r0 2)) (zg ((zkd X (M r0 2)).1 = 5 ∧ 0 ≤ (0 : Int) ∧ (0 : Int) < ((zkd X (M r0 2)).2 : Int) ∧ 0 < (M (M r0 2) (0 : Int))) (zg (zkd X r0 = (16, 0)) (zg ((zkd X (M (M r0 2) (0 : Int))).1 = 0 ∧ 0 ≤ (M r0 1) ∧ (M r0 1) < ((zkd X (M (M r0 2) (0 : Int))).2 : Int)) (zex 85 12 [] [(2, r0), (0, x1), (0, x2), (0, x3)] (zu M (M (M r0 2) (0 : Int)) (M r0 1) x1) X))))) :=
  (zblk 85 zc85 rfl [12, 20, 28, 34] 36 0 _ _ _ _).trans rfl
-- yX10_add
theorem q85_12 (r0 : Int) (x1 : Int) (x2 : Int) (x3 : Int) (M : zM) (X : zX) : zex 85 12 [] [(2, r0), (0, x1), (0, x2), (0, x3)] M X = zg (zkd X r0 = (16, 0) ∧ 0 < (M r0 2)) (zg ((zkd X (M r0 2)).1 = 5 ∧ 0 ≤ (1 : Int) ∧ (1 : Int) < ((zkd X (M r0 2)).2 : Int) ∧ 0 < (M (M r0 2) (1 : Int))) (zg (zkd X r0 = (16, 0)) (zg ((zkd X (M (M r0 2) (1 : Int))).1 = 0 ∧ 0 ≤ (M r0 1) ∧ (M r0 1) < ((zkd X (M (M r0 2) (1 : Int))).2 : Int)) (zex 85 20 [] [(2, r0), (0, x1), (0, x2), (0, x3)] (zu M (M (M r0 2) (1 : Int)) (M r0 1) x2) X)))) :=
  (zblk 85 zc85 rfl [12, 20, 28, 34] 36 12 _ _ _ _).trans rfl
-- yX10_add
theorem q85_20 (r0 : Int) (x1 : Int) (x2 : Int) (x3 : Int) (M : zM) (X : zX) : zex 85 20 [] [(2, r0), (0, x1), (0, x2), (0, x3)] M X = zg (zkd X r0 = (16, 0) ∧ 0 < (M r0 2)) (zg ((zkd X (M r0 2)).1 = 5 ∧ 0 ≤ (2 : Int) ∧ (2 : Int) < ((zkd X (M r0 2)).2 : Int) ∧ 0 < (M (M r0 2) (2 : Int))) (zg (zkd X r0 = (16, 0)) (zg ((zkd X (M (M r0 2) (2 : Int))).1 = 0 ∧ 0 ≤ (M r0 1) ∧ (M r0 1) < ((zkd X (M (M r0 2) (2 : Int))).2 : Int)) (zex 85 28 [] [(2, r0), (0, x1), (0, x2), (0, x3)] (zu M (M (M r0 2) (2 : Int)) (M r0 1) x3) X)))) :=
  (zblk 85 zc85 rfl [12, 20, 28, 34] 36 20 _ _ _ _).trans rfl
-- yX10_add
theorem q85_28 (r0 : Int) (x1 : Int) (x2 : Int) (x3 : Int) (M : zM) (X : zX) : zex 85 28 [] [(2, r0), (0, x1), (0, x2), (0, x3)] M X = zg (zkd X r0 = (16, 0)) (zg (zI ((M r0 1) + (1 : Int))) (zg (zkd X r0 = (16, 0)) (zex 85 34 [] [(2, r0), (0, x1), (0, x2), (0, x3)] (zu M r0 1 ((M r0 1) + (1 : Int))) X))) :=
  (zblk 85 zc85 rfl [12, 20, 28, 34] 36 28 _ _ _ _).trans rfl
-- yX10_add
theorem q85_34 (r0 : Int) (x1 : Int) (x2 : Int) (x3 : Int) (M : zM) (X : zX) : zex 85 34 [] [(2, r0), (0, x1), (0, x2), (0, x3)] M X = some ((9, 0), M, X) :=
  (zblk 85 zc85 rfl [12, 20, 28, 34] 36 34 _ _ _ _).trans rfl
-- yX10_windFrom
theorem q86_0 (r0 : Int) (r1 : Int) (x2 : Int) (d3 : zV) (d4 : zV) (M : zM) (X : zX) : zex 86 0 [] [(2, r0), (2, r1), (0, x2), d3, d4] M X = zex 86 2 [] [(2, r0), (2, r1), (0, x2), (0, (0 : Int)), d4] M X :=
  (zblk 86 zc86 rfl [2, 11, 16, 19, 23, 27, 33, 38, 40, 89] 95 0 _ _ _ _).trans rfl
-- yX10_windFrom
theorem q86_2 (r0 : Int) (r1 : Int) (x2 : Int) (x3 : Int) (d4 : zV) (M : zM) (X : zX) : zex 86 2 [] [(2, r0), (2, r1), (0, x2), (0, x3), d4] M X = if (3 : Int) ≤ x3 then zg (zkd X r0 = (16, 0) ∧ ((0 : Int) = 0 ∨ (0 : Int) = 1)) (zex 86 16 [] [(2, r0), (2, r1), (0, x2), (0, x3), d4] (zu M r0 4 (0 : Int)) X) else zg (zkd X r0 = (16, 0) ∧ 0 < (M r0 3)) (zg ((zkd X (M r0 3)).1 = 3 ∧ 0 ≤ x3 ∧ x3 < ((zkd X (M r0 3)).2 : Int) ∧ 0 < (M (M r0 3) x3)) (zg (zkd X (M (M r0 3) x3) = (7, 0)) (zex 86 11 [] [(2, r0), (2, r1), (0, x2), (0, x3), d4] (zu M (M (M r0 3) x3) 0 (0 : Int)) X))) :=
  (zblk 86 zc86 rfl [2, 11, 16, 19, 23, 27, 33, 38, 40, 89] 95 2 _ _ _ _).trans rfl
-- yX10_windFrom
theorem q86_11 (r0 : Int) (r1 : Int) (x2 : Int) (x3 : Int) (d4 : zV) (M : zM) (X : zX) : zex 86 11 [] [(2, r0), (2, r1), (0, x2), (0, x3), d4] M X = zg (zI (x3 + (1 : Int))) (zex 86 2 [] [(2, r0), (2, r1), (0, x2), (0, (x3 + (1 : Int))), d4] M X) :=
  (zblk 86 zc86 rfl [2, 11, 16, 19, 23, 27, 33, 38, 40, 89] 95 11 _ _ _ _).trans rfl
-- yX10_windFrom
theorem q86_16 (r0 : Int) (r1 : Int) (x2 : Int) (x3 : Int) (d4 : zV) (M : zM) (X : zX) : zex 86 16 [] [(2, r0), (2, r1), (0, x2), (0, x3), d4] M X = zg (zkd X r0 = (16, 0)) (zex 86 19 [] [(2, r0), (2, r1), (0, x2), (0, x3), d4] (zu M r0 5 (0 : Int)) X) :=
  (zblk 86 zc86 rfl [2, 11, 16, 19, 23, 27, 33, 38, 40, 89] 95 16 _ _ _ _).trans rfl
-- yX10_windFrom
theorem q86_19 (r0 : Int) (r1 : Int) (x2 : Int) (x3 : Int) (d4 : zV) (M : zM) (X : zX) : zex 86 19 [] [(2, r0), (2, r1), (0, x2), (0, x3), d4] M X = zg (zkd X r1 = (11, 0)) (zbI (zex 53 0 [] [(2, r1)] M X) (fun v1 M1 X1 => zg (zkd X1 r0 = (16, 0)) (zex 86 23 [] [(2, r0), (2, r1), (0, x2), (0, x3), d4] (zu M1 r0 6 v1) X1))) :=
  (zblk 86 zc86 rfl [2, 11, 16, 19, 23, 27, 33, 38, 40, 89] 95 19 _ _ _ _).trans rfl
-- yX10_windFrom
theorem q86_23 (r0 : Int) (r1 : Int) (x2 : Int) (x3 : Int) (d4 : zV) (M : zM) (X : zX) : zex 86 23 [] [(2, r0), (2, r1), (0, x2), (0, x3), d4] M X = zg (zkd X r1 = (11, 0)) (zbI (zex 54 0 [] [(2, r1)] M X) (fun v1 M1 X1 => zg (zkd X1 r0 = (16, 0)) (zex 86 27 [] [(2, r0), (2, r1), (0, x2), (0, x3), d4] (zu M1 r0 7 v1) X1))) :=
  (zblk 86 zc86 rfl [2, 11, 16, 19, 23, 27, 33, 38, 40, 89] 95 23 _ _ _ _).trans rfl
-- yX10_windFrom
theorem q86_27 (r0 : Int) (r1 : Int) (x2 : Int) (x3 : Int) (d4 : zV) (M : zM) (X : zX) : zex 86 27 [] [(2, r0), (2, r1), (0, x2), (0, x3), d4] M X = zg (zkd X r1 = (11, 0)) (zg (0 < (4 : Int)) (zg (zkd X r0 = (16, 0)) (zex 86 33 [] [(2, r0), (2, r1), (0, x2), (0, x3), d4] (zu M r0 8 (Int.tdiv (M r1 2) (4 : Int))) X))) :=
  (zblk 86 zc86 rfl [2, 11, 16, 19, 23, 27, 33, 38, 40, 89] 95 27 _ _ _ _).trans rfl
-- yX10_windFrom
theorem q86_33 (r0 : Int) (r1 : Int) (x2 : Int) (x3 : Int) (d4 : zV) (M : zM) (X : zX) : zex 86 33 [] [(2, r0), (2, r1), (0, x2), (0, x3), d4] M X = zg (zI ((4 : Int) * x2)) (zg (zkd X r0 = (16, 0)) (zex 86 38 [] [(2, r0), (2, r1), (0, x2), (0, x3), d4] (zu M r0 9 ((4 : Int) * x2)) X)) :=
  (zblk 86 zc86 rfl [2, 11, 16, 19, 23, 27, 33, 38, 40, 89] 95 33 _ _ _ _).trans rfl
-- yX10_windFrom
theorem q86_38 (r0 : Int) (r1 : Int) (x2 : Int) (x3 : Int) (d4 : zV) (M : zM) (X : zX) : zex 86 38 [] [(2, r0), (2, r1), (0, x2), (0, x3), d4] M X = zex 86 40 [] [(2, r0), (2, r1), (0, x2), (0, (0 : Int)), d4] M X :=
  (zblk 86 zc86 rfl [2, 11, 16, 19, 23, 27, 33, 38, 40, 89] 95 38 _ _ _ _).trans rfl
-- yX10_windFrom
set_option maxRecDepth 20000 in
theorem q86_40 (r0 : Int) (r1 : Int) (x2 : Int) (x3 : Int) (d4 : zV) (M : zM) (X : zX) : zex 86 40 [] [(2, r0), (2, r1), (0, x2), (0, x3), d4] M X = zg (zkd X r0 = (16, 0)) (if (M r0 1) ≤ x3 then zg (zkd X r0 = (16, 0)) (some ((0, (M r0 5)), M, X)) else zg (zkd X r0 = (16, 0) ∧ 0 < (M r0 2)) (zg ((zkd X (M r0 2)).1 = 5 ∧ 0 ≤ (1 : Int) ∧ (1 : Int) < ((zkd X (M r0 2)).2 : Int) ∧ 0 < (M (M r0 2) (1 : Int))) (zg ((zkd X (M (M r0 2) (1 : Int))).1 = 0 ∧ 0 ≤ x3 ∧ x3 < ((zkd X (M (M r0 2) (1 : Int))).2 : Int)) (zg (zkd X r0 = (16, 0) ∧ 0 < (M r0 2)) (zg ((zkd X (M r0 2)).1 = 5 ∧ 0 ≤ (0 : Int) ∧ (0 : Int) < ((zkd X (M r0 2)).2 : Int) ∧ 0 < (M (M r0 2) (0 : Int))) (zg ((zkd X (M (M r0 2) (0 : Int))).1 = 0 ∧ 0 ≤ x3 ∧ x3 < ((zkd X (M (M r0 2) (0 : Int))).2 : Int)) (if (M (M (M r0 2) (0 : Int)) x3) = (0 : Int) then zg (zkd X r0 = (16, 0) ∧ 0 < (M r0 2)) (zg ((zkd X (M r0 2)).1 = 5 ∧ 0 ≤ (2 : Int) ∧ (2 : Int) < ((zkd X (M r0 2)).2 : Int) ∧ 0 < (M (M r0 2) (2 : Int))) (zg ((zkd X (M (M r0 2) (2 : Int))).1 = 0 ∧ 0 ≤ x3 ∧ x3 < ((zkd X (M (M r0 2) (2 : Int))).2 : Int)) (zg (zkd X r0 = (16, 0)) (zbI (zex 87 0 [] [(2, r0), (0, (M (M (M r0 2) (1 : Int)) x3)), (0, (M (M (M r0 2) (2 : Int)) x3)), (9, 0), (9, 0), (9, 0)] M X) (fun v4 M4 X4 => if v4 = 0 then zg (zI ((-100 : Int) - x3)) (some ((0, ((-100 : Int) - x3)), M4, X4)) else zex 86 89 [] [(2, r0), (2, r1), (0, x2), (0, x3), (0, (M (M (M r0 2) (1 : Int)) x3))] M4 X4))))) else if (M (M (M r0 2) (0 : Int)) x3) = (1 : Int) then zg (zkd X r0 = (16, 0)) (zbN (zex 90 0 [] [(2, r0), (0, (2 : Int)), (0, (2 : Int)), (0, (2 : Int)), (0, (M (M (M r0 2) (1 : Int)) x3)), (9, 0)] M X) (fun M3 X3 => zex 86 89 [] [(2, r0), (2, r1), (0, x2), (0, x3), (0, (M (M (M r0 2) (1 : Int)) x3))] M3 X3)) else if (M (M (M r0 2) (0 : Int)) x3) = (2 : Int) then zg (zkd X r0 = (16, 0)) (zbN (zex 90 0 [] [(2, r0), (0, (2 : Int)), (0, (2 : Int)), (0, (0 : Int)), (0, (M (M (M r0 2) (1 : Int)) x3)), (9, 0)] M X) (fun M2 X2 => zex 86 89 [] [(2, r0), (2, r1), (0, x2), (0, x3), (0, (M (M (M r0 2) (1 : Int)) x3))] M2 X2)) else zg (zkd X r0 = (16, 0)) (zbN (zex 88 0 [] [(2, r0), (0, (M (M (M r0 2) (1 : Int)) x3))] M X) (fun M1 X1 => zex 86 89 [] [(2, r0), (2, r1), (0, x2), (0, x3), (0, (M (M (M r0 2) (1 : Int)) x3))] M1 X1))))))))) :=
  (zblk 86 zc86 rfl [2, 11, 16, 19, 23, 27, 33, 38, 40, 89] 95 40 _ _ _ _).trans rfl
-- yX10_windFrom
theorem q86_89 (r0 : Int) (r1 : Int) (x2 : Int) (x3 : Int) (x4 : Int) (M : zM) (X : zX) : zex 86 89 [] [(2, r0), (2, r1), (0, x2), (0, x3), (0, x4)] M X = zg (zI (x3 + (1 : Int))) (zex 86 40 [] [(2, r0), (2, r1), (0, x2), (0, (x3 + (1 : Int))), (0, x4)] M X) :=
  (zblk 86 zc86 rfl [2, 11, 16, 19, 23, 27, 33, 38, 40, 89] 95 89 _ _ _ _).trans rfl
-- yX10_goTo
theorem q87_0 (r0 : Int) (x1 : Int) (x2 : Int) (d3 : zV) (d4 : zV) (d5 : zV) (M : zM) (X : zX) : zex 87 0 [] [(2, r0), (0, x1), (0, x2), d3, d4, d5] M X = zg (zkd X r0 = (16, 0) ∧ 0 < (M r0 0)) (zg (zkd X r0 = (16, 0)) (zg (zkd X r0 = (16, 0)) (zg (zkd X r0 = (16, 0)) (zg (zkd X r0 = (16, 0)) (zg (zkd X (M r0 0) = (9, 0)) (zbI (zex 37 0 [] [(2, (M r0 0)), (0, (M r0 6)), (0, (M r0 7)), (0, (M r0 8)), (0, x1), (0, x2), (0, (M r0 9)), (9, 0), (9, 0), (9, 0)] M X) (fun v1 M1 X1 => if 0 ≤ v1 then zex 87 20 [] [(2, r0), (0, x1), (0, x2), (0, v1), (0, (0 : Int)), d5] M1 X1 else zg ((0 : Int) = 0 ∨ (0 : Int) = 1) (some ((0, (0 : Int)), M1, X1))))))))) :=
  (zblk 87 zc87 rfl [20, 49] 52 0 _ _ _ _).trans rfl
-- yX10_goTo
theorem q87_20 (r0 : Int) (x1 : Int) (x2 : Int) (x3 : Int) (x4 : Int) (d5 : zV) (M : zM) (X : zX) : zex 87 20 [] [(2, r0), (0, x1), (0, x2), (0, x3), (0, x4), d5] M X = if (4096 : Int) ≤ x4 then zex 87 49 [] [(2, r0), (0, x1), (0, x2), (0, x3), (0, x4), d5] M X else if x3 ≤ 0 then zex 87 49 [] [(2, r0), (0, x1), (0, x2), (0, x3), (0, x4), d5] M X else zg (zkd X r0 = (16, 0)) (zg (zkd X r0 = (16, 0) ∧ 0 < (M r0 0)) (zg (zkd X r0 = (16, 0)) (zg (zkd X r0 = (16, 0)) (zg (zkd X r0 = (16, 0)) (zg (zkd X (M r0 0) = (9, 0)) (zbI (zex 38 0 [] [(2, (M r0 0)), (0, (M r0 6)), (0, (M r0 7)), (0, (M r0 8)), (0, x3), (9, 0), (9, 0)] M X) (fun v1 M1 X1 => zg (zkd X1 r0 = (16, 0)) (zbN (zex 89 0 [] [(2, r0), (0, v1)] M1 X1) (fun M2 X2 => zg (zkd X2 r0 = (16, 0)) (zg (zI ((M2 r0 5) - (M r0 5))) (zg (zI (x3 - ((M2 r0 5) - (M r0 5)))) (zg (zI (x4 + (1 : Int))) (zex 87 20 [] [(2, r0), (0, x1), (0, x2), (0, (x3 - ((M2 r0 5) - (M r0 5)))), (0, (x4 + (1 : Int))), (0, (M r0 5))] M2 X2))))))))))))) :=
  (zblk 87 zc87 rfl [20, 49] 52 20 _ _ _ _).trans rfl
-- yX10_goTo
theorem q87_49 (r0 : Int) (x1 : Int) (x2 : Int) (x3 : Int) (x4 : Int) (d5 : zV) (M : zM) (X : zX) : zex 87 49 [] [(2, r0), (0, x1), (0, x2), (0, x3), (0, x4), d5] M X = zg ((1 : Int) = 0 ∨ (1 : Int) = 1) (some ((0, (1 : Int)), M, X)) :=
  (zblk 87 zc87 rfl [20, 49] 52 49 _ _ _ _).trans rfl
-- yX10_faceTo
theorem q88_0 (r0 : Int) (x1 : Int) (M : zM) (X : zX) : zex 88 0 [] [(2, r0), (0, x1)] M X = zg (zkd X r0 = (16, 0)) (zg (zI (x1 - (M r0 8))) (zg ((3 : Int) = 1 ∨ (3 : Int) = 3 ∨ (3 : Int) = 15 ∨ (3 : Int) = 63) (if ((x1 - (M r0 8)) % ((3 : Int) + 1)) = (1 : Int) then zg (zkd X r0 = (16, 0)) (zbN (zex 89 0 [] [(2, r0), (0, (2 : Int))] M X) (fun M4 X4 => zex 88 22 [] [(2, r0), (0, x1)] M4 X4)) else if ((x1 - (M r0 8)) % ((3 : Int) + 1)) = (2 : Int) then zg (zkd X r0 = (16, 0)) (zbN (zex 89 0 [] [(2, r0), (0, (2 : Int))] M X) (fun M2 X2 => zg (zkd X2 r0 = (16, 0)) (zbN (zex 89 0 [] [(2, r0), (0, (2 : Int))] M2 X2) (fun M3 X3 => zex 88 22 [] [(2, r0), (0, x1)] M3 X3)))) else if ((x1 - (M r0 8)) % ((3 : Int) + 1)) = (3 : Int) then zg (zkd X r0 = (16, 0)) (zbN (zex 89 0 [] [(2, r0), (0, (3 : Int))] M X) (fun M1 X1 => zex 88 22 [] [(2, r0), (0, x1)] M1 X1)) else zex 88 22 [] [(2, r0), (0, x1)] M X))) :=
  (zblk 88 zc88 rfl [22] 24 0 _ _ _ _).trans rfl
-- yX10_faceTo
theorem q88_22 (r0 : Int) (x1 : Int) (M : zM) (X : zX) : zex 88 22 [] [(2, r0), (0, x1)] M X = some ((9, 0), M, X) :=
  (zblk 88 zc88 rfl [22] 24 22 _ _ _ _).trans rfl
-- yX10_move
set_option maxRecDepth 20000 in
theorem q89_0 (r0 : Int) (x1 : Int) (M : zM) (X : zX) : zex 89 0 [] [(2, r0), (0, x1)] M X = if x1 = (0 : Int) then zg (zkd X r0 = (16, 0)) (zbN (zex 90 0 [] [(2, r0), (0, (0 : Int)), (0, (0 : Int)), (0, (2 : Int)), (0, (1 : Int)), (9, 0)] M X) (fun M4 X4 => zg (zkd X4 r0 = (16, 0)) (zg (zkd X4 r0 = (16, 0)) (zg ((3 : Int) = 1 ∨ (3 : Int) = 3 ∨ (3 : Int) = 15 ∨ (3 : Int) = 63) (zg (2 = ((2 : Nat) : Int) ∧ 0 ≤ ((M4 r0 8) % ((3 : Int) + 1)) ∧ ((M4 r0 8) % ((3 : Int) + 1)) < zsl M4 2) (zg (zI ((M4 r0 6) + (zsv M4 2 ((M4 r0 8) % ((3 : Int) + 1))))) (zg (zkd X4 r0 = (16, 0)) (zex 89 19 [] [(2, r0), (0, x1)] (zu M4 r0 6 ((M4 r0 6) + (zsv M4 2 ((M4 r0 8) % ((3 : Int) + 1))))) X4)))))))) else if x1 = (1 : Int) then zg (zkd X r0 = (16, 0)) (zbN (zex 90 0 [] [(2, r0), (0, (1 : Int)), (0, (1 : Int)), (0, (2 : Int)), (0, (1 : Int)), (9, 0)] M X) (fun M3 X3 => zg (zkd X3 r0 = (16, 0)) (zg (zkd X3 r0 = (16, 0)) (zg ((3 : Int) = 1 ∨ (3 : Int) = 3 ∨ (3 : Int) = 15 ∨ (3 : Int) = 63) (zg (2 = ((2 : Nat) : Int) ∧ 0 ≤ ((M3 r0 8) % ((3 : Int) + 1)) ∧ ((M3 r0 8) % ((3 : Int) + 1)) < zsl M3 2) (zg (zI ((M3 r0 6) - (zsv M3 2 ((M3 r0 8) % ((3 : Int) + 1))))) (zg (zkd X3 r0 = (16, 0)) (zex 89 48 [] [(2, r0), (0, x1)] (zu M3 r0 6 ((M3 r0 6) - (zsv M3 2 ((M3 r0 8) % ((3 : Int) + 1))))) X3)))))))) else if x1 = (2 : Int) then zg (zkd X r0 = (16, 0)) (zg (zkd X r0 = (16, 0)) (zbN (zex 90 0 [] [(2, r0), (0, (1 : Int)), (0, (0 : Int)), (0, (2 : Int)), (0, (M r0 9)), (9, 0)] M X) (fun M2 X2 => zg (zkd X2 r0 = (16, 0)) (zg (zI ((M2 r0 8) + (1 : Int))) (zg ((3 : Int) = 1 ∨ (3 : Int) = 3 ∨ (3 : Int) = 15 ∨ (3 : Int) = 63) (zg (zkd X2 r0 = (16, 0)) (zex 89 75 [] [(2, r0), (0, x1)] (zu M2 r0 8 (((M2 r0 8) + (1 : Int)) % ((3 : Int) + 1))) X2))))))) else zg (zkd X r0 = (16, 0)) (zg (zkd X r0 = (16, 0)) (zbN (zex 90 0 [] [(2, r0), (0, (0 : Int)), (0, (1 : Int)), (0, (2 : Int)), (0, (M r0 9)), (9, 0)] M X) (fun M1 X1 => zg (zkd X1 r0 = (16, 0)) (zg (zI ((M1 r0 8) - (1 : Int))) (zg ((3 : Int) = 1 ∨ (3 : Int) = 3 ∨ (3 : Int) = 15 ∨ (3 : Int) = 63) (zg (zkd X1 r0 = (16, 0)) (zex 89 91 [] [(2, r0), (0, x1)] (zu M1 r0 8 (((M1 r0 8) - (1 : Int)) % ((3 : Int) + 1))) X1))))))) :=
  (zblk 89 zc89 rfl [19, 30, 48, 59, 75, 91] 93 0 _ _ _ _).trans rfl
-- yX10_move
theorem q89_19 (r0 : Int) (x1 : Int) (M : zM) (X : zX) : zex 89 19 [] [(2, r0), (0, x1)] M X = zg (zkd X r0 = (16, 0)) (zg (zkd X r0 = (16, 0)) (zg ((3 : Int) = 1 ∨ (3 : Int) = 3 ∨ (3 : Int) = 15 ∨ (3 : Int) = 63) (zg (3 = ((3 : Nat) : Int) ∧ 0 ≤ ((M r0 8) % ((3 : Int) + 1)) ∧ ((M r0 8) % ((3 : Int) + 1)) < zsl M 3) (zg (zI ((M r0 7) + (zsv M 3 ((M r0 8) % ((3 : Int) + 1))))) (zg (zkd X r0 = (16, 0)) (zex 89 30 [] [(2, r0), (0, x1)] (zu M r0 7 ((M r0 7) + (zsv M 3 ((M r0 8) % ((3 : Int) + 1))))) X)))))) :=
  (zblk 89 zc89 rfl [19, 30, 48, 59, 75, 91] 93 19 _ _ _ _).trans rfl
-- yX10_move
theorem q89_30 (r0 : Int) (x1 : Int) (M : zM) (X : zX) : zex 89 30 [] [(2, r0), (0, x1)] M X = zex 89 91 [] [(2, r0), (0, x1)] M X :=
  (zblk 89 zc89 rfl [19, 30, 48, 59, 75, 91] 93 30 _ _ _ _).trans rfl
-- yX10_move
theorem q89_48 (r0 : Int) (x1 : Int) (M : zM) (X : zX) : zex 89 48 [] [(2, r0), (0, x1)] M X = zg (zkd X r0 = (16, 0)) (zg (zkd X r0 = (16, 0)) (zg ((3 : Int) = 1 ∨ (3 : Int) = 3 ∨ (3 : Int) = 15 ∨ (3 : Int) = 63) (zg (3 = ((3 : Nat) : Int) ∧ 0 ≤ ((M r0 8) % ((3 : Int) + 1)) ∧ ((M r0 8) % ((3 : Int) + 1)) < zsl M 3) (zg (zI ((M r0 7) - (zsv M 3 ((M r0 8) % ((3 : Int) + 1))))) (zg (zkd X r0 = (16, 0)) (zex 89 59 [] [(2, r0), (0, x1)] (zu M r0 7 ((M r0 7) - (zsv M 3 ((M r0 8) % ((3 : Int) + 1))))) X)))))) :=
  (zblk 89 zc89 rfl [19, 30, 48, 59, 75, 91] 93 48 _ _ _ _).trans rfl
-- yX10_move
theorem q89_59 (r0 : Int) (x1 : Int) (M : zM) (X : zX) : zex 89 59 [] [(2, r0), (0, x1)] M X = zex 89 91 [] [(2, r0), (0, x1)] M X :=
  (zblk 89 zc89 rfl [19, 30, 48, 59, 75, 91] 93 59 _ _ _ _).trans rfl
-- yX10_move
theorem q89_75 (r0 : Int) (x1 : Int) (M : zM) (X : zX) : zex 89 75 [] [(2, r0), (0, x1)] M X = zex 89 91 [] [(2, r0), (0, x1)] M X :=
  (zblk 89 zc89 rfl [19, 30, 48, 59, 75, 91] 93 75 _ _ _ _).trans rfl
-- yX10_move
theorem q89_91 (r0 : Int) (x1 : Int) (M : zM) (X : zX) : zex 89 91 [] [(2, r0), (0, x1)] M X = some ((9, 0), M, X) :=
  (zblk 89 zc89 rfl [19, 30, 48, 59, 75, 91] 93 91 _ _ _ _).trans rfl
-- yX10_windUnits
theorem q90_0 (r0 : Int) (x1 : Int) (x2 : Int) (x3 : Int) (x4 : Int) (d5 : zV) (M : zM) (X : zX) : zex 90 0 [] [(2, r0), (0, x1), (0, x2), (0, x3), (0, x4), d5] M X = zg (zkd X r0 = (16, 0) ∧ 0 < (M r0 3)) (zg ((zkd X (M r0 3)).1 = 3 ∧ 0 ≤ (0 : Int) ∧ (0 : Int) < ((zkd X (M r0 3)).2 : Int) ∧ 0 < (M (M r0 3) (0 : Int))) (zg (zkd X (M (M r0 3) (0 : Int)) = (7, 0)) (zbI (zex 11 0 [] [(2, (M (M r0 3) (0 : Int))), (0, x1), (0, x4), (9, 0), (9, 0), (9, 0)] M X) (fun v1 M1 X1 => zg (zkd X1 r0 = (16, 0) ∧ 0 < (M1 r0 3)) (zg ((zkd X1 (M1 r0 3)).1 = 3 ∧ 0 ≤ (1 : Int) ∧ (1 : Int) < ((zkd X1 (M1 r0 3)).2 : Int) ∧ 0 < (M1 (M1 r0 3) (1 : Int))) (zg (zkd X1 (M1 (M1 r0 3) (1 : Int)) = (7, 0)) (zbI (zex 11 0 [] [(2, (M1 (M1 r0 3) (1 : Int))), (0, x2), (0, x4), (9, 0), (9, 0), (9, 0)] M1 X1) (fun v2 M2 X2 => if v2 = 0 then zex 90 20 [] [(2, r0), (0, x1), (0, x2), (0, x3), (0, x4), (0, v1)] M2 X2 else if v1 = 0 then zex 90 20 [] [(2, r0), (0, x1), (0, x2), (0, x3), (0, x4), (0, v1)] M2 X2 else zex 90 21 [(0, (1 : Int))] [(2, r0), (0, x1), (0, x2), (0, x3), (0, x4), (0, v1)] M2 X2)))))))) :=
  (zblk 90 zc90 rfl [20, 21, 34, 35, 42, 45] 54 0 _ _ _ _).trans rfl
-- yX10_windUnits
theorem q90_20 (r0 : Int) (x1 : Int) (x2 : Int) (x3 : Int) (x4 : Int) (x5 : Int) (M : zM) (X : zX) : zex 90 20 [] [(2, r0), (0, x1), (0, x2), (0, x3), (0, x4), (0, x5)] M X = zex 90 21 [(0, (0 : Int))] [(2, r0), (0, x1), (0, x2), (0, x3), (0, x4), (0, x5)] M X :=
  (zblk 90 zc90 rfl [20, 21, 34, 35, 42, 45] 54 20 _ _ _ _).trans rfl
-- yX10_windUnits
theorem q90_21 (s0 : Int) (r0 : Int) (x1 : Int) (x2 : Int) (x3 : Int) (x4 : Int) (x5 : Int) (M : zM) (X : zX) : zex 90 21 [(0, s0)] [(2, r0), (0, x1), (0, x2), (0, x3), (0, x4), (0, x5)] M X = zg (zkd X r0 = (16, 0) ∧ 0 < (M r0 3)) (zg ((zkd X (M r0 3)).1 = 3 ∧ 0 ≤ (2 : Int) ∧ (2 : Int) < ((zkd X (M r0 3)).2 : Int) ∧ 0 < (M (M r0 3) (2 : Int))) (zg (zkd X (M (M r0 3) (2 : Int)) = (7, 0)) (zbI (zex 11 0 [] [(2, (M (M r0 3) (2 : Int))), (0, x3), (0, x4), (9, 0), (9, 0), (9, 0)] M X) (fun v1 M1 X1 => if v1 = 0 then zex 90 34 [] [(2, r0), (0, x1), (0, x2), (0, x3), (0, x4), (0, s0)] M1 X1 else if s0 = 0 then zex 90 34 [] [(2, r0), (0, x1), (0, x2), (0, x3), (0, x4), (0, s0)] M1 X1 else zex 90 35 [(0, (1 : Int))] [(2, r0), (0, x1), (0, x2), (0, x3), (0, x4), (0, s0)] M1 X1)))) :=
  (zblk 90 zc90 rfl [20, 21, 34, 35, 42, 45] 54 21 _ _ _ _).trans rfl
-- yX10_windUnits
theorem q90_34 (r0 : Int) (x1 : Int) (x2 : Int) (x3 : Int) (x4 : Int) (x5 : Int) (M : zM) (X : zX) : zex 90 34 [] [(2, r0), (0, x1), (0, x2), (0, x3), (0, x4), (0, x5)] M X = zex 90 35 [(0, (0 : Int))] [(2, r0), (0, x1), (0, x2), (0, x3), (0, x4), (0, x5)] M X :=
  (zblk 90 zc90 rfl [20, 21, 34, 35, 42, 45] 54 34 _ _ _ _).trans rfl
-- yX10_windUnits
theorem q90_35 (s0 : Int) (r0 : Int) (x1 : Int) (x2 : Int) (x3 : Int) (x4 : Int) (x5 : Int) (M : zM) (X : zX) : zex 90 35 [(0, s0)] [(2, r0), (0, x1), (0, x2), (0, x3), (0, x4), (0, x5)] M X = zg (zkd X r0 = (16, 0)) (if (M r0 4) = 0 then if s0 = 0 then zex 90 42 [(2, r0)] [(2, r0), (0, x1), (0, x2), (0, x3), (0, x4), (0, s0)] M X else zex 90 45 [(0, (0 : Int)), (2, r0)] [(2, r0), (0, x1), (0, x2), (0, x3), (0, x4), (0, s0)] M X else zex 90 42 [(2, r0)] [(2, r0), (0, x1), (0, x2), (0, x3), (0, x4), (0, s0)] M X) :=
  (zblk 90 zc90 rfl [20, 21, 34, 35, 42, 45] 54 35 _ _ _ _).trans rfl
-- yX10_windUnits
theorem q90_42 (s0 : Int) (r0 : Int) (x1 : Int) (x2 : Int) (x3 : Int) (x4 : Int) (x5 : Int) (M : zM) (X : zX) : zex 90 42 [(2, s0)] [(2, r0), (0, x1), (0, x2), (0, x3), (0, x4), (0, x5)] M X = zex 90 45 [(0, (1 : Int)), (2, s0)] [(2, r0), (0, x1), (0, x2), (0, x3), (0, x4), (0, x5)] M X :=
  (zblk 90 zc90 rfl [20, 21, 34, 35, 42, 45] 54 42 _ _ _ _).trans rfl
-- yX10_windUnits
theorem q90_45 (s0 : Int) (s1 : Int) (r0 : Int) (x1 : Int) (x2 : Int) (x3 : Int) (x4 : Int) (x5 : Int) (M : zM) (X : zX) : zex 90 45 [(0, s1), (2, s0)] [(2, r0), (0, x1), (0, x2), (0, x3), (0, x4), (0, x5)] M X = zg (zkd X s0 = (16, 0) ∧ (s1 = 0 ∨ s1 = 1)) (zg (zkd X r0 = (16, 0)) (zg (zI (((zu M s0 4 s1) r0 5) + x4)) (zg (zkd X r0 = (16, 0)) (some ((9, 0), (zu (zu M s0 4 s1) r0 5 (((zu M s0 4 s1) r0 5) + x4)), X))))) :=
  (zblk 90 zc90 rfl [20, 21, 34, 35, 42, 45] 54 45 _ _ _ _).trans rfl
-- yX11_init
theorem q91_0 (r0 : Int) (d1 : zV) (M : zM) (X : zX) : zex 91 0 [] [(2, r0), d1] M X = zg (1 ≤ X.2.1 ∧ 4 ≤ X.2.2) (zg (zkd (X.1 ++ [(6, 0)], X.2.1 - 1, X.2.2 - 4) ((X.1.length : Int) + 1) = (6, 0)) (zbN (zex 0 0 [] [(2, ((X.1.length : Int) + 1)), (9, 0)] (zclr M ((X.1.length : Int) + 1)) (X.1 ++ [(6, 0)], X.2.1 - 1, X.2.2 - 4)) (fun M1 X1 => zg (zkd X1 r0 = (17, 0)) (zex 91 7 [] [(2, r0), d1] (zu M1 r0 0 ((X.1.length : Int) + 1)) X1)))) :=
  (zblk 91 zc91 rfl [7, 12, 17, 22, 31, 36, 43, 52, 56, 58] 74 0 _ _ _ _).trans rfl
-- yX11_init
theorem q91_7 (r0 : Int) (d1 : zV) (M : zM) (X : zX) : zex 91 7 [] [(2, r0), d1] M X = zg (1 ≤ X.2.1 ∧ 5 ≤ X.2.2) (zg (zkd (X.1 ++ [(11, 0)], X.2.1 - 1, X.2.2 - 5) ((X.1.length : Int) + 1) = (11, 0)) (zbN (zex 50 0 [] [(2, ((X.1.length : Int) + 1))] (zclr M ((X.1.length : Int) + 1)) (X.1 ++ [(11, 0)], X.2.1 - 1, X.2.2 - 5)) (fun M1 X1 => zg (zkd X1 r0 = (17, 0)) (zex 91 12 [] [(2, r0), d1] (zu M1 r0 1 ((X.1.length : Int) + 1)) X1)))) :=
  (zblk 91 zc91 rfl [7, 12, 17, 22, 31, 36, 43, 52, 56, 58] 74 7 _ _ _ _).trans rfl
-- yX11_init
theorem q91_12 (r0 : Int) (d1 : zV) (M : zM) (X : zX) : zex 91 12 [] [(2, r0), d1] M X = zg (1 ≤ X.2.1 ∧ 6 ≤ X.2.2) (zg (zkd (X.1 ++ [(9, 0)], X.2.1 - 1, X.2.2 - 6) ((X.1.length : Int) + 1) = (9, 0)) (zbN (zex 33 0 [] [(2, ((X.1.length : Int) + 1))] (zclr M ((X.1.length : Int) + 1)) (X.1 ++ [(9, 0)], X.2.1 - 1, X.2.2 - 6)) (fun M1 X1 => zg (zkd X1 r0 = (17, 0)) (zex 91 17 [] [(2, r0), d1] (zu M1 r0 2 ((X.1.length : Int) + 1)) X1)))) :=
  (zblk 91 zc91 rfl [7, 12, 17, 22, 31, 36, 43, 52, 56, 58] 74 12 _ _ _ _).trans rfl
-- yX11_init
theorem q91_17 (r0 : Int) (d1 : zV) (M : zM) (X : zX) : zex 91 17 [] [(2, r0), d1] M X = zg (1 ≤ X.2.1 ∧ 4 ≤ X.2.2) (zg (zkd (X.1 ++ [(15, 0)], X.2.1 - 1, X.2.2 - 4) ((X.1.length : Int) + 1) = (15, 0)) (zbN (zex 79 0 [] [(2, ((X.1.length : Int) + 1))] (zclr M ((X.1.length : Int) + 1)) (X.1 ++ [(15, 0)], X.2.1 - 1, X.2.2 - 4)) (fun M1 X1 => zg (zkd X1 r0 = (17, 0)) (zex 91 22 [] [(2, r0), d1] (zu M1 r0 3 ((X.1.length : Int) + 1)) X1)))) :=
  (zblk 91 zc91 rfl [7, 12, 17, 22, 31, 36, 43, 52, 56, 58] 74 17 _ _ _ _).trans rfl
-- yX11_init
theorem q91_22 (r0 : Int) (d1 : zV) (M : zM) (X : zX) : zex 91 22 [] [(2, r0), d1] M X = zg (1 ≤ X.2.1 ∧ 9 ≤ X.2.2) (zg (zkd (X.1 ++ [(12, 0)], X.2.1 - 1, X.2.2 - 9) r0 = (17, 0) ∧ 0 < ((zclr M ((X.1.length : Int) + 1)) r0 0)) (zg (zkd (X.1 ++ [(12, 0)], X.2.1 - 1, X.2.2 - 9) r0 = (17, 0) ∧ 0 < ((zclr M ((X.1.length : Int) + 1)) r0 1)) (zg (zkd (X.1 ++ [(12, 0)], X.2.1 - 1, X.2.2 - 9) ((X.1.length : Int) + 1) = (12, 0)) (zbN (zex 59 0 [] [(2, ((X.1.length : Int) + 1)), (2, ((zclr M ((X.1.length : Int) + 1)) r0 0)), (2, ((zclr M ((X.1.length : Int) + 1)) r0 1))] (zclr M ((X.1.length : Int) + 1)) (X.1 ++ [(12, 0)], X.2.1 - 1, X.2.2 - 9)) (fun M1 X1 => zg (zkd X1 r0 = (17, 0)) (zex 91 31 [] [(2, r0), d1] (zu M1 r0 4 ((X.1.length : Int) + 1)) X1)))))) :=
  (zblk 91 zc91 rfl [7, 12, 17, 22, 31, 36, 43, 52, 56, 58] 74 22 _ _ _ _).trans rfl
-- yX11_init
theorem q91_31 (r0 : Int) (d1 : zV) (M : zM) (X : zX) : zex 91 31 [] [(2, r0), d1] M X = zg (1 ≤ X.2.1 ∧ 8 ≤ X.2.2) (zg (zkd (X.1 ++ [(13, 0)], X.2.1 - 1, X.2.2 - 8) ((X.1.length : Int) + 1) = (13, 0)) (zbN (zex 69 0 [] [(2, ((X.1.length : Int) + 1))] (zclr M ((X.1.length : Int) + 1)) (X.1 ++ [(13, 0)], X.2.1 - 1, X.2.2 - 8)) (fun M1 X1 => zg (zkd X1 r0 = (17, 0)) (zex 91 36 [] [(2, r0), d1] (zu M1 r0 5 ((X.1.length : Int) + 1)) X1)))) :=
  (zblk 91 zc91 rfl [7, 12, 17, 22, 31, 36, 43, 52, 56, 58] 74 31 _ _ _ _).trans rfl
-- yX11_init
theorem q91_36 (r0 : Int) (d1 : zV) (M : zM) (X : zX) : zex 91 36 [] [(2, r0), d1] M X = zg (1 ≤ X.2.1 ∧ 10 ≤ X.2.2) (zg (zkd (X.1 ++ [(16, 0)], X.2.1 - 1, X.2.2 - 10) r0 = (17, 0) ∧ 0 < ((zclr M ((X.1.length : Int) + 1)) r0 2)) (zg (zkd (X.1 ++ [(16, 0)], X.2.1 - 1, X.2.2 - 10) ((X.1.length : Int) + 1) = (16, 0)) (zbN (zex 84 0 [] [(2, ((X.1.length : Int) + 1)), (2, ((zclr M ((X.1.length : Int) + 1)) r0 2)), (9, 0)] (zclr M ((X.1.length : Int) + 1)) (X.1 ++ [(16, 0)], X.2.1 - 1, X.2.2 - 10)) (fun M1 X1 => zg (zkd X1 r0 = (17, 0)) (zex 91 43 [] [(2, r0), d1] (zu M1 r0 6 ((X.1.length : Int) + 1)) X1))))) :=
  (zblk 91 zc91 rfl [7, 12, 17, 22, 31, 36, 43, 52, 56, 58] 74 36 _ _ _ _).trans rfl
-- yX11_init
theorem q91_43 (r0 : Int) (d1 : zV) (M : zM) (X : zX) : zex 91 43 [] [(2, r0), d1] M X = zg (1 ≤ X.2.1 ∧ 12 ≤ X.2.2) (zg (zkd (X.1 ++ [(8, 0)], X.2.1 - 1, X.2.2 - 12) r0 = (17, 0) ∧ 0 < ((zclr M ((X.1.length : Int) + 1)) r0 4)) (zg (zkd (X.1 ++ [(8, 0)], X.2.1 - 1, X.2.2 - 12) r0 = (17, 0) ∧ 0 < ((zclr M ((X.1.length : Int) + 1)) r0 3)) (zg (zkd (X.1 ++ [(8, 0)], X.2.1 - 1, X.2.2 - 12) ((X.1.length : Int) + 1) = (8, 0)) (zbN (zex 16 0 [] [(2, ((X.1.length : Int) + 1)), (2, ((zclr M ((X.1.length : Int) + 1)) r0 4)), (2, ((zclr M ((X.1.length : Int) + 1)) r0 3))] (zclr M ((X.1.length : Int) + 1)) (X.1 ++ [(8, 0)], X.2.1 - 1, X.2.2 - 12)) (fun M1 X1 => zg (zkd X1 r0 = (17, 0)) (zex 91 52 [] [(2, r0), d1] (zu M1 r0 7 ((X.1.length : Int) + 1)) X1)))))) :=
  (zblk 91 zc91 rfl [7, 12, 17, 22, 31, 36, 43, 52, 56, 58] 74 43 _ _ _ _).trans rfl
-- yX11_init
theorem q91_52 (r0 : Int) (d1 : zV) (M : zM) (X : zX) : zex 91 52 [] [(2, r0), d1] M X = zg (0 ≤ (6 : Int) ∧ (6 : Int) ≤ 65536 ∧ 1 ≤ X.2.1 ∧ Int.toNat (6 : Int) ≤ X.2.2) (zg (zkd (X.1 ++ [(4, Int.toNat (6 : Int))], X.2.1 - 1, X.2.2 - Int.toNat (6 : Int)) r0 = (17, 0)) (zex 91 56 [] [(2, r0), d1] (zu (zclr M ((X.1.length : Int) + 1)) r0 8 ((X.1.length : Int) + 1)) (X.1 ++ [(4, Int.toNat (6 : Int))], X.2.1 - 1, X.2.2 - Int.toNat (6 : Int)))) :=
  (zblk 91 zc91 rfl [7, 12, 17, 22, 31, 36, 43, 52, 56, 58] 74 52 _ _ _ _).trans rfl
-- yX11_init
theorem q91_56 (r0 : Int) (d1 : zV) (M : zM) (X : zX) : zex 91 56 [] [(2, r0), d1] M X = zex 91 58 [] [(2, r0), (0, (0 : Int))] M X :=
  (zblk 91 zc91 rfl [7, 12, 17, 22, 31, 36, 43, 52, 56, 58] 74 56 _ _ _ _).trans rfl
-- yX11_init
theorem q91_58 (r0 : Int) (x1 : Int) (M : zM) (X : zX) : zex 91 58 [] [(2, r0), (0, x1)] M X = if (6 : Int) ≤ x1 then zg (zkd X r0 = (17, 0)) (zbN (zex 132 0 [] [(2, r0)] M X) (fun M1 X1 => some ((9, 0), M1, X1))) else zg (zkd X r0 = (17, 0) ∧ 0 < (M r0 8)) (zg (1 ≤ X.2.1 ∧ 4 ≤ X.2.2) (zg (zkd (X.1 ++ [(14, 0)], X.2.1 - 1, X.2.2 - 4) ((X.1.length : Int) + 1) = (14, 0)) (zbN (zex 74 0 [] [(2, ((X.1.length : Int) + 1))] (zclr M ((X.1.length : Int) + 1)) (X.1 ++ [(14, 0)], X.2.1 - 1, X.2.2 - 4)) (fun M2 X2 => zg ((zkd X2 (M r0 8)).1 = 4 ∧ 0 ≤ x1 ∧ x1 < ((zkd X2 (M r0 8)).2 : Int) ∧ zkd X2 ((X.1.length : Int) + 1) = (14, 0)) (zg (zI (x1 + (1 : Int))) (zex 91 58 [] [(2, r0), (0, (x1 + (1 : Int)))] (zu M2 (M r0 8) x1 ((X.1.length : Int) + 1)) X2)))))) :=
  (zblk 91 zc91 rfl [7, 12, 17, 22, 31, 36, 43, 52, 56, 58] 74 58 _ _ _ _).trans rfl
-- yX11_begin
theorem q92_0 (r0 : Int) (M : zM) (X : zX) : zex 92 0 [] [(2, r0)] M X = zg (zkd X r0 = (17, 0)) (zbN (zex 132 0 [] [(2, r0)] M X) (fun M1 X1 => some ((0, (0 : Int)), M1, X1))) :=
  (zblk 92 zc92 rfl [] 5 0 _ _ _ _).trans rfl
-- yX11_wind
set_option maxRecDepth 20000 in
theorem q93_0 (r0 : Int) (x1 : Int) (x2 : Int) (x3 : Int) (x4 : Int) (d5 : zV) (M : zM) (X : zX) : zex 93 0 [] [(2, r0), (0, x1), (0, x2), (0, x3), (0, x4), d5] M X = zbI (zex 134 0 [] [(0, x1)] M X) (fun v1 M1 X1 => if v1 = 0 then zex 93 18 [] [(2, r0), (0, x1), (0, x2), (0, x3), (0, x4), d5] M1 X1 else zbI (zex 133 0 [] [(0, x2), (0, (0 : Int)), (0, (3 : Int))] M1 X1) (fun v2 M2 X2 => if v2 = 0 then zex 93 18 [] [(2, r0), (0, x1), (0, x2), (0, x3), (0, x4), d5] M2 X2 else zbI (zex 133 0 [] [(0, x3), (0, (1 : Int)), (0, (200 : Int))] M2 X2) (fun v3 M3 X3 => if v3 = 0 then zex 93 18 [] [(2, r0), (0, x1), (0, x2), (0, x3), (0, x4), d5] M3 X3 else zbI (zex 133 0 [] [(0, x4), (0, (0 : Int)), (0, (1 : Int))] M3 X3) (fun v4 M4 X4 => if v4 = 0 then zex 93 18 [] [(2, r0), (0, x1), (0, x2), (0, x3), (0, x4), d5] M4 X4 else zg (zkd X4 r0 = (17, 0) ∧ 0 < (M4 r0 0)) (zg (zkd X4 (M4 r0 0) = (6, 0) ∧ 0 < (M4 (M4 r0 0) 0)) (zg ((zkd X4 (M4 (M4 r0 0) 0)).1 = 3 ∧ 0 ≤ x1 ∧ x1 < ((zkd X4 (M4 (M4 r0 0) 0)).2 : Int) ∧ 0 < (M4 (M4 (M4 r0 0) 0) x1)) (zg (zkd X4 (M4 (M4 (M4 r0 0) 0) x1) = (7, 0)) (if (M4 (M4 (M4 (M4 r0 0) 0) x1) 0) < (40 : Int) then zg (zkd X4 (M4 (M4 (M4 r0 0) 0) x1) = (7, 0)) (zbN (zex 10 0 [] [(2, (M4 (M4 (M4 r0 0) 0) x1)), (0, x2), (0, x3), (0, x4)] M4 X4) (fun M5 X5 => zg (zkd X5 (M4 (M4 (M4 r0 0) 0) x1) = (7, 0)) (some ((0, (M5 (M4 (M4 (M4 r0 0) 0) x1) 0)), M5, X5)))) else some ((0, (-2 : Int)), M4, X4))))))))) :=
  (zblk 93 zc93 rfl [18] 41 0 _ _ _ _).trans rfl
-- yX11_wind
theorem q93_18 (r0 : Int) (x1 : Int) (x2 : Int) (x3 : Int) (x4 : Int) (d5 : zV) (M : zM) (X : zX) : zex 93 18 [] [(2, r0), (0, x1), (0, x2), (0, x3), (0, x4), d5] M X = some ((0, (-1 : Int)), M, X) :=
  (zblk 93 zc93 rfl [18] 41 18 _ _ _ _).trans rfl
-- yX11_unwind
theorem q94_0 (r0 : Int) (x1 : Int) (d2 : zV) (M : zM) (X : zX) : zex 94 0 [] [(2, r0), (0, x1), d2] M X = zbI (zex 134 0 [] [(0, x1)] M X) (fun v1 M1 X1 => if v1 = 0 then some ((0, (-1 : Int)), M1, X1) else zg (zkd X1 r0 = (17, 0) ∧ 0 < (M1 r0 0)) (zg (zkd X1 (M1 r0 0) = (6, 0) ∧ 0 < (M1 (M1 r0 0) 0)) (zg ((zkd X1 (M1 (M1 r0 0) 0)).1 = 3 ∧ 0 ≤ x1 ∧ x1 < ((zkd X1 (M1 (M1 r0 0) 0)).2 : Int) ∧ 0 < (M1 (M1 (M1 r0 0) 0) x1)) (zg (zkd X1 (M1 (M1 (M1 r0 0) 0) x1) = (7, 0)) (zg (zkd X1 r0 = (17, 0) ∧ 0 < (M1 r0 0)) (zg (zkd X1 (M1 r0 0) = (6, 0) ∧ 0 < (M1 (M1 r0 0) 0)) (zg ((zkd X1 (M1 (M1 r0 0) 0)).1 = 3 ∧ 0 ≤ x1 ∧ x1 < ((zkd X1 (M1 (M1 r0 0) 0)).2 : Int) ∧ 0 < (M1 (M1 (M1 r0 0) 0) x1)) (zg (zkd X1 (M1 (M1 (M1 r0 0) 0) x1) = (7, 0)) (some ((0, (M1 (M1 (M1 (M1 r0 0) 0) x1) 0)), (zu M1 (M1 (M1 (M1 r0 0) 0) x1) 0 (0 : Int)), X1)))))))))) :=
  (zblk 94 zc94 rfl [] 22 0 _ _ _ _).trans rfl
-- yX11_segment
set_option maxRecDepth 20000 in
theorem q95_0 (r0 : Int) (x1 : Int) (x2 : Int) (x3 : Int) (d4 : zV) (M : zM) (X : zX) : zex 95 0 [] [(2, r0), (0, x1), (0, x2), (0, x3), d4] M X = zbI (zex 134 0 [] [(0, x1)] M X) (fun v1 M1 X1 => if v1 = 0 then zex 95 11 [] [(2, r0), (0, x1), (0, x2), (0, x3), d4] M1 X1 else zg (zkd X1 r0 = (17, 0) ∧ 0 < (M1 r0 0)) (zg (zkd X1 (M1 r0 0) = (6, 0) ∧ 0 < (M1 (M1 r0 0) 0)) (zg ((zkd X1 (M1 (M1 r0 0) 0)).1 = 3 ∧ 0 ≤ x1 ∧ x1 < ((zkd X1 (M1 (M1 r0 0) 0)).2 : Int) ∧ 0 < (M1 (M1 (M1 r0 0) 0) x1)) (zg (zkd X1 (M1 (M1 (M1 r0 0) 0) x1) = (7, 0)) (zbI (zex 9 0 [] [(2, (M1 (M1 (M1 r0 0) 0) x1)), (0, x2)] M1 X1) (fun v2 M2 X2 => if v2 = 0 then zex 95 11 [] [(2, r0), (0, x1), (0, x2), (0, x3), d4] M2 X2 else zg (zkd X2 r0 = (17, 0) ∧ 0 < (M2 r0 0)) (zg (zkd X2 (M2 r0 0) = (6, 0) ∧ 0 < (M2 (M2 r0 0) 0)) (zg ((zkd X2 (M2 (M2 r0 0) 0)).1 = 3 ∧ 0 ≤ x1 ∧ x1 < ((zkd X2 (M2 (M2 r0 0) 0)).2 : Int) ∧ 0 < (M2 (M2 (M2 r0 0) 0) x1)) (if x3 = (0 : Int) then zg (zkd X2 (M2 (M2 (M2 r0 0) 0) x1) = (7, 0) ∧ 0 < (M2 (M2 (M2 (M2 r0 0) 0) x1) 1)) (zg ((zkd X2 (M2 (M2 (M2 (M2 r0 0) 0) x1) 1)).1 = 0 ∧ 0 ≤ x2 ∧ x2 < ((zkd X2 (M2 (M2 (M2 (M2 r0 0) 0) x1) 1)).2 : Int)) (some ((0, (M2 (M2 (M2 (M2 (M2 r0 0) 0) x1) 1) x2)), M2, X2))) else if x3 = (1 : Int) then zg (zkd X2 (M2 (M2 (M2 r0 0) 0) x1) = (7, 0) ∧ 0 < (M2 (M2 (M2 (M2 r0 0) 0) x1) 2)) (zg ((zkd X2 (M2 (M2 (M2 (M2 r0 0) 0) x1) 2)).1 = 0 ∧ 0 ≤ x2 ∧ x2 < ((zkd X2 (M2 (M2 (M2 (M2 r0 0) 0) x1) 2)).2 : Int)) (some ((0, (M2 (M2 (M2 (M2 (M2 r0 0) 0) x1) 2) x2)), M2, X2))) else if x3 = (2 : Int) then zg (zkd X2 (M2 (M2 (M2 r0 0) 0) x1) = (7, 0) ∧ 0 < (M2 (M2 (M2 (M2 r0 0) 0) x1) 3)) (zg ((zkd X2 (M2 (M2 (M2 (M2 r0 0) 0) x1) 3)).1 = 0 ∧ 0 ≤ x2 ∧ x2 < ((zkd X2 (M2 (M2 (M2 (M2 r0 0) 0) x1) 3)).2 : Int)) (some ((0, (M2 (M2 (M2 (M2 (M2 r0 0) 0) x1) 3) x2)), M2, X2))) else some ((0, (-1 : Int)), M2, X2)))))))))) :=
  (zblk 95 zc95 rfl [11] 39 0 _ _ _ _).trans rfl
-- yX11_segment
theorem q95_11 (r0 : Int) (x1 : Int) (x2 : Int) (x3 : Int) (d4 : zV) (M : zM) (X : zX) : zex 95 11 [] [(2, r0), (0, x1), (0, x2), (0, x3), d4] M X = some ((0, (-1 : Int)), M, X) :=
  (zblk 95 zc95 rfl [11] 39 11 _ _ _ _).trans rfl
-- yX11_hard
theorem q96_0 (r0 : Int) (x1 : Int) (d2 : zV) (M : zM) (X : zX) : zex 96 0 [] [(2, r0), (0, x1), d2] M X = zbI (zex 133 0 [] [(0, x1), (0, (1 : Int)), (0, (8 : Int))] M X) (fun v1 M1 X1 => if v1 = 0 then some ((0, (-1 : Int)), M1, X1) else zg (zkd X1 r0 = (17, 0) ∧ 0 < (M1 r0 0)) (zg (zkd X1 (M1 r0 0) = (6, 0)) (zg (zkd X1 r0 = (17, 0) ∧ 0 < (M1 r0 0)) (zg (zkd X1 (M1 r0 0) = (6, 0)) (some ((0, (M1 (M1 r0 0) 3)), (zu M1 (M1 r0 0) 3 x1), X1)))))) :=
  (zblk 96 zc96 rfl [] 18 0 _ _ _ _).trans rfl
-- yX11_peg
theorem q97_0 (r0 : Int) (x1 : Int) (x2 : Int) (d3 : zV) (M : zM) (X : zX) : zex 97 0 [] [(2, r0), (0, x1), (0, x2), d3] M X = zbI (zex 133 0 [] [(0, x1), (0, (-400 : Int)), (0, (400 : Int))] M X) (fun v1 M1 X1 => if v1 = 0 then zex 97 10 [] [(2, r0), (0, x1), (0, x2), d3] M1 X1 else zbI (zex 133 0 [] [(0, x2), (0, (0 : Int)), (0, (9 : Int))] M1 X1) (fun v2 M2 X2 => if v2 = 0 then zex 97 10 [] [(2, r0), (0, x1), (0, x2), d3] M2 X2 else zg (zkd X2 r0 = (17, 0) ∧ 0 < (M2 r0 0)) (zg (zkd X2 (M2 r0 0) = (6, 0)) (zbI (zex 3 0 [] [(2, (M2 r0 0)), (0, x1)] M2 X2) (fun v3 M3 X3 => if v3 = 0 then zex 97 20 [(0, (1 : Int))] [(2, r0), (0, x1), (0, x2), d3] M3 X3 else zex 97 20 [(0, (0 : Int))] [(2, r0), (0, x1), (0, x2), d3] M3 X3))))) :=
  (zblk 97 zc97 rfl [10, 20, 27, 36] 46 0 _ _ _ _).trans rfl
-- yX11_peg
theorem q97_10 (r0 : Int) (x1 : Int) (x2 : Int) (d3 : zV) (M : zM) (X : zX) : zex 97 10 [] [(2, r0), (0, x1), (0, x2), d3] M X = some ((0, (-1 : Int)), M, X) :=
  (zblk 97 zc97 rfl [10, 20, 27, 36] 46 10 _ _ _ _).trans rfl
-- yX11_peg
theorem q97_20 (s0 : Int) (r0 : Int) (x1 : Int) (x2 : Int) (d3 : zV) (M : zM) (X : zX) : zex 97 20 [(0, s0)] [(2, r0), (0, x1), (0, x2), d3] M X = if x2 = 0 then if s0 = 0 then zex 97 27 [] [(2, r0), (0, x1), (0, x2), (0, s0)] M X else some ((0, (-1 : Int)), M, X) else zex 97 27 [] [(2, r0), (0, x1), (0, x2), (0, s0)] M X :=
  (zblk 97 zc97 rfl [10, 20, 27, 36] 46 20 _ _ _ _).trans rfl
-- yX11_peg
theorem q97_27 (r0 : Int) (x1 : Int) (x2 : Int) (x3 : Int) (M : zM) (X : zX) : zex 97 27 [] [(2, r0), (0, x1), (0, x2), (0, x3)] M X = if x3 = 0 then zex 97 36 [] [(2, r0), (0, x1), (0, x2), (0, x3)] M X else zg (zkd X r0 = (17, 0) ∧ 0 < (M r0 0)) (zg (zkd X (M r0 0) = (6, 0)) (if (M (M r0 0) 2) < (12 : Int) then zex 97 36 [] [(2, r0), (0, x1), (0, x2), (0, x3)] M X else some ((0, (-2 : Int)), M, X))) :=
  (zblk 97 zc97 rfl [10, 20, 27, 36] 46 27 _ _ _ _).trans rfl
-- yX11_peg
theorem q97_36 (r0 : Int) (x1 : Int) (x2 : Int) (x3 : Int) (M : zM) (X : zX) : zex 97 36 [] [(2, r0), (0, x1), (0, x2), (0, x3)] M X = zg (zkd X r0 = (17, 0) ∧ 0 < (M r0 0)) (zg (zkd X (M r0 0) = (6, 0)) (zbN (zex 4 0 [] [(2, (M r0 0)), (0, x1), (0, x2), (9, 0)] M X) (fun M1 X1 => zg (zkd X1 r0 = (17, 0) ∧ 0 < (M1 r0 0)) (zg (zkd X1 (M1 r0 0) = (6, 0)) (some ((0, (M1 (M1 r0 0) 2)), M1, X1)))))) :=
  (zblk 97 zc97 rfl [10, 20, 27, 36] 46 36 _ _ _ _).trans rfl
-- yX11_start
theorem q98_0 (r0 : Int) (x1 : Int) (x2 : Int) (x3 : Int) (M : zM) (X : zX) : zex 98 0 [] [(2, r0), (0, x1), (0, x2), (0, x3)] M X = zbI (zex 135 0 [] [(0, x1), (0, x2)] M X) (fun v1 M1 X1 => if v1 = 0 then zex 98 9 [] [(2, r0), (0, x1), (0, x2), (0, x3)] M1 X1 else zbI (zex 133 0 [] [(0, x3), (0, (0 : Int)), (0, (15 : Int))] M1 X1) (fun v2 M2 X2 => if v2 = 0 then zex 98 9 [] [(2, r0), (0, x1), (0, x2), (0, x3)] M2 X2 else zg (zkd X2 r0 = (17, 0) ∧ 0 < (M2 r0 1)) (zg (zkd X2 (M2 r0 1) = (11, 0)) (zbN (zex 51 0 [] [(2, (M2 r0 1)), (0, x1), (0, x2), (0, x3)] M2 X2) (fun M3 X3 => zg (zkd X3 r0 = (17, 0) ∧ 0 < (M3 r0 2)) (zg (zkd X3 (M3 r0 2) = (9, 0)) (zbI (zex 36 0 [] [(2, (M3 r0 2)), (0, x1), (0, x2)] M3 X3) (fun v4 M4 X4 => if v4 = 0 then zex 98 26 [(0, (1 : Int))] [(2, r0), (0, x1), (0, x2), (0, x3)] M4 X4 else zex 98 26 [(0, (0 : Int))] [(2, r0), (0, x1), (0, x2), (0, x3)] M4 X4)))))))) :=
  (zblk 98 zc98 rfl [9, 26] 28 0 _ _ _ _).trans rfl
-- yX11_start
theorem q98_9 (r0 : Int) (x1 : Int) (x2 : Int) (x3 : Int) (M : zM) (X : zX) : zex 98 9 [] [(2, r0), (0, x1), (0, x2), (0, x3)] M X = some ((0, (-1 : Int)), M, X) :=
  (zblk 98 zc98 rfl [9, 26] 28 9 _ _ _ _).trans rfl
-- yX11_start
theorem q98_26 (s0 : Int) (r0 : Int) (x1 : Int) (x2 : Int) (x3 : Int) (M : zM) (X : zX) : zex 98 26 [(0, s0)] [(2, r0), (0, x1), (0, x2), (0, x3)] M X = some ((0, s0), M, X) :=
  (zblk 98 zc98 rfl [9, 26] 28 26 _ _ _ _).trans rfl
-- yX11_block
theorem q99_0 (r0 : Int) (x1 : Int) (x2 : Int) (M : zM) (X : zX) : zex 99 0 [] [(2, r0), (0, x1), (0, x2)] M X = zbI (zex 135 0 [] [(0, x1), (0, x2)] M X) (fun v1 M1 X1 => if v1 = 0 then some ((0, (-1 : Int)), M1, X1) else zg (zkd X1 r0 = (17, 0) ∧ 0 < (M1 r0 2)) (zg (zkd X1 (M1 r0 2) = (9, 0)) (zbN (zex 35 0 [] [(2, (M1 r0 2)), (0, x1), (0, x2), (9, 0)] M1 X1) (fun M2 X2 => zg (zkd X2 r0 = (17, 0) ∧ 0 < (M2 r0 2)) (zg (zkd X2 (M2 r0 2) = (9, 0)) (zbI (zex 36 0 [] [(2, (M2 r0 2)), (0, x1), (0, x2)] M2 X2) (fun v3 M3 X3 => if v3 = 0 then zex 99 20 [(0, (1 : Int))] [(2, r0), (0, x1), (0, x2)] M3 X3 else zex 99 20 [(0, (0 : Int))] [(2, r0), (0, x1), (0, x2)] M3 X3))))))) :=
  (zblk 99 zc99 rfl [20] 22 0 _ _ _ _).trans rfl
-- yX11_block
theorem q99_20 (s0 : Int) (r0 : Int) (x1 : Int) (x2 : Int) (M : zM) (X : zX) : zex 99 20 [(0, s0)] [(2, r0), (0, x1), (0, x2)] M X = some ((0, s0), M, X) :=
  (zblk 99 zc99 rfl [20] 22 20 _ _ _ _).trans rfl
-- yX11_sand
set_option maxRecDepth 20000 in
theorem q100_0 (r0 : Int) (x1 : Int) (x2 : Int) (d3 : zV) (M : zM) (X : zX) : zex 100 0 [] [(2, r0), (0, x1), (0, x2), d3] M X = zbI (zex 136 0 [] [(0, x1)] M X) (fun v1 M1 X1 => if v1 = 0 then zex 100 8 [] [(2, r0), (0, x1), (0, x2), d3] M1 X1 else zbI (zex 133 0 [] [(0, x2), (0, (1 : Int)), (0, (30 : Int))] M1 X1) (fun v2 M2 X2 => if v2 = 0 then zex 100 8 [] [(2, r0), (0, x1), (0, x2), d3] M2 X2 else zg (zkd X2 r0 = (17, 0) ∧ 0 < (M2 r0 8)) (zg ((zkd X2 (M2 r0 8)).1 = 4 ∧ 0 ≤ x1 ∧ x1 < ((zkd X2 (M2 r0 8)).2 : Int) ∧ 0 < (M2 (M2 r0 8) x1)) (zg (zkd X2 (M2 (M2 r0 8) x1) = (14, 0)) (if (M2 (M2 (M2 r0 8) x1) 0) = 0 then zg (zkd X2 r0 = (17, 0)) (zbI (zex 140 0 [] [(2, r0), (0, (-11 : Int))] M2 X2) (fun v7 M7 X7 => some ((0, v7), M7, X7))) else zg (zkd X2 (M2 (M2 r0 8) x1) = (14, 0)) (if (M2 (M2 (M2 r0 8) x1) 0) = (1 : Int) then zg (zkd X2 (M2 (M2 r0 8) x1) = (14, 0)) (if x2 ≤ (M2 (M2 (M2 r0 8) x1) 1) then zg (zkd X2 (M2 (M2 r0 8) x1) = (14, 0) ∧ 0 < (M2 (M2 (M2 r0 8) x1) 2)) (zbI (zex 81 0 [] [(2, (M2 (M2 (M2 r0 8) x1) 2)), (0, x2), (9, 0), (9, 0)] M2 X2) (fun v3 M3 X3 => if v3 = 0 then some ((0, (-5 : Int)), M3, X3) else zg (zkd X3 r0 = (17, 0) ∧ 0 < (M3 r0 3)) (zg (zkd X3 (M2 (M2 r0 8) x1) = (14, 0) ∧ 0 < (M3 (M2 (M2 r0 8) x1) 2)) (zg (zkd X3 (M3 r0 3) = (15, 0)) (zbN (zex 82 0 [] [(2, (M3 r0 3)), (2, (M3 (M2 (M2 r0 8) x1) 2)), (0, x2), (9, 0)] M3 X3) (fun M4 X4 => some ((0, x2), M4, X4))))))) else zg (zkd X2 r0 = (17, 0)) (zbI (zex 140 0 [] [(2, r0), (0, (-13 : Int))] M2 X2) (fun v5 M5 X5 => some ((0, v5), M5, X5)))) else zg (zkd X2 r0 = (17, 0)) (zbI (zex 140 0 [] [(2, r0), (0, (-12 : Int))] M2 X2) (fun v6 M6 X6 => some ((0, v6), M6, X6))))))))) :=
  (zblk 100 zc100 rfl [8] 54 0 _ _ _ _).trans rfl
-- yX11_sand
theorem q100_8 (r0 : Int) (x1 : Int) (x2 : Int) (d3 : zV) (M : zM) (X : zX) : zex 100 8 [] [(2, r0), (0, x1), (0, x2), d3] M X = some ((0, (-1 : Int)), M, X) :=
  (zblk 100 zc100 rfl [8] 54 8 _ _ _ _).trans rfl
-- yX11_hold
theorem q101_0 (r0 : Int) (x1 : Int) (d2 : zV) (M : zM) (X : zX) : zex 101 0 [] [(2, r0), (0, x1), d2] M X = zbI (zex 133 0 [] [(0, x1), (0, (1 : Int)), (0, (9 : Int))] M X) (fun v1 M1 X1 => if v1 = 0 then some ((0, (-1 : Int)), M1, X1) else zg (zkd X1 r0 = (17, 0) ∧ 0 < (M1 r0 3)) (zg (zkd X1 (M1 r0 3) = (15, 0)) (zg (zkd X1 r0 = (17, 0) ∧ 0 < (M1 r0 3)) (zg (zkd X1 (M1 r0 3) = (15, 0)) (some ((0, (M1 (M1 r0 3) 2)), (zu M1 (M1 r0 3) 2 x1), X1)))))) :=
  (zblk 101 zc101 rfl [] 18 0 _ _ _ _).trans rfl
-- yX11_fall
theorem q102_0 (r0 : Int) (x1 : Int) (d2 : zV) (M : zM) (X : zX) : zex 102 0 [] [(2, r0), (0, x1), d2] M X = zbI (zex 133 0 [] [(0, x1), (0, (0 : Int)), (0, (4000 : Int))] M X) (fun v1 M1 X1 => if v1 = 0 then some ((0, (-1 : Int)), M1, X1) else zg (zkd X1 r0 = (17, 0) ∧ 0 < (M1 r0 3)) (zg (zkd X1 (M1 r0 3) = (15, 0)) (zg (zkd X1 r0 = (17, 0) ∧ 0 < (M1 r0 3)) (zg (zkd X1 (M1 r0 3) = (15, 0)) (some ((0, (M1 (M1 r0 3) 3)), (zu M1 (M1 r0 3) 3 x1), X1)))))) :=
  (zblk 102 zc102 rfl [] 18 0 _ _ _ _).trans rfl
-- yX11_cord
theorem q103_0 (r0 : Int) (x1 : Int) (M : zM) (X : zX) : zex 103 0 [] [(2, r0), (0, x1)] M X = zbI (zex 134 0 [] [(0, x1)] M X) (fun v1 M1 X1 => if v1 = 0 then zex 103 11 [(0, (-1 : Int))] [(2, r0), (0, x1)] M1 X1 else zg (zkd X1 r0 = (17, 0) ∧ 0 < (M1 r0 0)) (zg (zkd X1 (M1 r0 0) = (6, 0) ∧ 0 < (M1 (M1 r0 0) 0)) (zg ((zkd X1 (M1 (M1 r0 0) 0)).1 = 3 ∧ 0 ≤ x1 ∧ x1 < ((zkd X1 (M1 (M1 r0 0) 0)).2 : Int) ∧ 0 < (M1 (M1 (M1 r0 0) 0) x1)) (zg (zkd X1 (M1 (M1 (M1 r0 0) 0) x1) = (7, 0)) (zbI (zex 12 0 [] [(2, (M1 (M1 (M1 r0 0) 0) x1)), (9, 0), (9, 0)] M1 X1) (fun v2 M2 X2 => zex 103 11 [(0, v2)] [(2, r0), (0, x1)] M2 X2)))))) :=
  (zblk 103 zc103 rfl [11] 13 0 _ _ _ _).trans rfl
-- yX11_cord
theorem q103_11 (s0 : Int) (r0 : Int) (x1 : Int) (M : zM) (X : zX) : zex 103 11 [(0, s0)] [(2, r0), (0, x1)] M X = some ((0, s0), M, X) :=
  (zblk 103 zc103 rfl [11] 13 11 _ _ _ _).trans rfl
-- yX11_show
theorem q104_0 (r0 : Int) (M : zM) (X : zX) : zex 104 0 [] [(2, r0)] M X = zg (zkd X r0 = (17, 0) ∧ 0 < (M r0 0)) (zg (zkd X (M r0 0) = (6, 0)) (zbI (zex 6 0 [] [(2, (M r0 0)), (9, 0), (9, 0)] M X) (fun v1 M1 X1 => if v1 ≤ 0 then zg (zkd X1 r0 = (17, 0) ∧ 0 < (M1 r0 5)) (zg (zkd X1 r0 = (17, 0) ∧ 0 < (M1 r0 4)) (zg (zkd X1 r0 = (17, 0) ∧ 0 < (M1 r0 3)) (zg (zkd X1 r0 = (17, 0) ∧ 0 < (M1 r0 2)) (zg (zkd X1 (M1 r0 5) = (13, 0)) (zbI (zex 70 0 [] [(2, (M1 r0 5)), (2, (M1 r0 4)), (2, (M1 r0 3)), (2, (M1 r0 2)), (9, 0), (9, 0), (9, 0)] M1 X1) (fun v2 M2 X2 => some ((0, v2), M2, X2))))))) else some ((0, (-3 : Int)), M1, X1)))) :=
  (zblk 104 zc104 rfl [] 17 0 _ _ _ _).trans rfl
-- yX11_pose
set_option maxRecDepth 20000 in
theorem q105_0 (r0 : Int) (x1 : Int) (M : zM) (X : zX) : zex 105 0 [] [(2, r0), (0, x1)] M X = zbI (zex 133 0 [] [(0, x1), (0, (0 : Int)), (0, (8 : Int))] M X) (fun v1 M1 X1 => if v1 = 0 then zg (1 ≤ X1.2.1 ∧ 6 ≤ X1.2.2) (some ((8, 1000 * ((1 : Nat) : Int) + ((5 : Nat) : Int)), M1, (X1.1, X1.2.1 - 1, X1.2.2 - 6))) else zg (zkd X1 r0 = (17, 0) ∧ 0 < (M1 r0 5)) (zg (zkd X1 (M1 r0 5) = (13, 0)) (if (M1 (M1 r0 5) 0) = 0 then zg (1 ≤ X1.2.1 ∧ 6 ≤ X1.2.2) (some ((8, 1000 * ((2 : Nat) : Int) + ((14 : Nat) : Int)), M1, (X1.1, X1.2.1 - 1, X1.2.2 - 6))) else if x1 = (5 : Int) then zg (zkd X1 r0 = (17, 0) ∧ 0 < (M1 r0 5)) (zg (zkd X1 (M1 r0 5) = (13, 0)) (some ((0, (M1 (M1 r0 5) 2)), M1, X1))) else if x1 = (6 : Int) then zg (zkd X1 r0 = (17, 0) ∧ 0 < (M1 r0 5)) (zg (zkd X1 (M1 r0 5) = (13, 0)) (some ((0, (M1 (M1 r0 5) 4)), M1, X1))) else if x1 = (7 : Int) then zg (zkd X1 r0 = (17, 0) ∧ 0 < (M1 r0 5)) (zg (zkd X1 (M1 r0 5) = (13, 0)) (some ((0, (M1 (M1 r0 5) 6)), M1, X1))) else if x1 = (8 : Int) then zg (zkd X1 r0 = (17, 0) ∧ 0 < (M1 r0 5)) (zg (zkd X1 (M1 r0 5) = (13, 0)) (some ((0, (M1 (M1 r0 5) 7)), M1, X1))) else zg (zkd X1 r0 = (17, 0) ∧ 0 < (M1 r0 5)) (zg (zkd X1 (M1 r0 5) = (13, 0) ∧ 0 < (M1 (M1 r0 5) 1)) (zg (zkd X1 (M1 (M1 r0 5) 1) = (11, 0)) (zbI (zex 55 0 [] [(2, (M1 (M1 r0 5) 1)), (0, x1)] M1 X1) (fun v2 M2 X2 => some ((0, v2), M2, X2)))))))) :=
  (zblk 105 zc105 rfl [] 44 0 _ _ _ _).trans rfl
-- yX11_acted
set_option maxRecDepth 20000 in
theorem q106_0 (r0 : Int) (x1 : Int) (x2 : Int) (M : zM) (X : zX) : zex 106 0 [] [(2, r0), (0, x1), (0, x2)] M X = zbI (zex 133 0 [] [(0, x2), (0, (0 : Int)), (0, (3 : Int))] M X) (fun v1 M1 X1 => if v1 = 0 then zg (1 ≤ X1.2.1 ∧ 6 ≤ X1.2.2) (some ((8, 1000 * ((1 : Nat) : Int) + ((5 : Nat) : Int)), M1, (X1.1, X1.2.1 - 1, X1.2.2 - 6))) else zg (zkd X1 r0 = (17, 0) ∧ 0 < (M1 r0 5)) (zg (zkd X1 (M1 r0 5) = (13, 0)) (if (M1 (M1 r0 5) 0) = 0 then zex 106 23 [] [(2, r0), (0, x1), (0, x2)] M1 X1 else zg (zkd X1 r0 = (17, 0) ∧ 0 < (M1 r0 5)) (zg (zkd X1 (M1 r0 5) = (13, 0)) (zg (zI ((M1 (M1 r0 5) 4) - (1 : Int))) (zbI (zex 133 0 [] [(0, x1), (0, (0 : Int)), (0, ((M1 (M1 r0 5) 4) - (1 : Int)))] M1 X1) (fun v2 M2 X2 => if v2 = 0 then zex 106 23 [] [(2, r0), (0, x1), (0, x2)] M2 X2 else zg (zkd X2 r0 = (17, 0) ∧ 0 < (M2 r0 5)) (zg (zkd X2 (M2 r0 5) = (13, 0) ∧ 0 < (M2 (M2 r0 5) 3)) (zg ((zkd X2 (M2 (M2 r0 5) 3)).1 = 5 ∧ 0 ≤ x2 ∧ x2 < ((zkd X2 (M2 (M2 r0 5) 3)).2 : Int) ∧ 0 < (M2 (M2 (M2 r0 5) 3) x2)) (zg ((zkd X2 (M2 (M2 (M2 r0 5) 3) x2)).1 = 0 ∧ 0 ≤ x1 ∧ x1 < ((zkd X2 (M2 (M2 (M2 r0 5) 3) x2)).2 : Int)) (some ((0, (M2 (M2 (M2 (M2 r0 5) 3) x2) x1)), M2, X2)))))))))))) :=
  (zblk 106 zc106 rfl [23] 37 0 _ _ _ _).trans rfl
-- yX11_acted
theorem q106_23 (r0 : Int) (x1 : Int) (x2 : Int) (M : zM) (X : zX) : zex 106 23 [] [(2, r0), (0, x1), (0, x2)] M X = zg (1 ≤ X.2.1 ∧ 6 ≤ X.2.2) (some ((8, 1000 * ((2 : Nat) : Int) + ((23 : Nat) : Int)), M, (X.1, X.2.1 - 1, X.2.2 - 6))) :=
  (zblk 106 zc106 rfl [23] 37 23 _ _ _ _).trans rfl
-- yX11_slipped
set_option maxRecDepth 20000 in
theorem q107_0 (r0 : Int) (x1 : Int) (x2 : Int) (M : zM) (X : zX) : zex 107 0 [] [(2, r0), (0, x1), (0, x2)] M X = zbI (zex 133 0 [] [(0, x2), (0, (0 : Int)), (0, (2 : Int))] M X) (fun v1 M1 X1 => if v1 = 0 then zex 107 20 [] [(2, r0), (0, x1), (0, x2)] M1 X1 else zg (zkd X1 r0 = (17, 0) ∧ 0 < (M1 r0 5)) (zg (zkd X1 (M1 r0 5) = (13, 0)) (if (M1 (M1 r0 5) 0) = 0 then zex 107 20 [] [(2, r0), (0, x1), (0, x2)] M1 X1 else zg (zkd X1 r0 = (17, 0) ∧ 0 < (M1 r0 5)) (zg (zkd X1 (M1 r0 5) = (13, 0)) (zbI (zex 221 0 [] [(0, (M1 (M1 r0 5) 6)), (0, (20 : Int))] M1 X1) (fun v2 M2 X2 => zg (zI (v2 - (1 : Int))) (zbI (zex 133 0 [] [(0, x1), (0, (0 : Int)), (0, (v2 - (1 : Int)))] M2 X2) (fun v3 M3 X3 => if v3 = 0 then zex 107 20 [] [(2, r0), (0, x1), (0, x2)] M3 X3 else zg (zkd X3 r0 = (17, 0) ∧ 0 < (M3 r0 5)) (zg (zkd X3 (M3 r0 5) = (13, 0) ∧ 0 < (M3 (M3 r0 5) 5)) (zg ((zkd X3 (M3 (M3 r0 5) 5)).1 = 5 ∧ 0 ≤ x2 ∧ x2 < ((zkd X3 (M3 (M3 r0 5) 5)).2 : Int) ∧ 0 < (M3 (M3 (M3 r0 5) 5) x2)) (zg ((zkd X3 (M3 (M3 (M3 r0 5) 5) x2)).1 = 0 ∧ 0 ≤ x1 ∧ x1 < ((zkd X3 (M3 (M3 (M3 r0 5) 5) x2)).2 : Int)) (some ((0, (M3 (M3 (M3 (M3 r0 5) 5) x2) x1)), M3, X3))))))))))))) :=
  (zblk 107 zc107 rfl [20] 31 0 _ _ _ _).trans rfl
-- yX11_slipped
theorem q107_20 (r0 : Int) (x1 : Int) (x2 : Int) (M : zM) (X : zX) : zex 107 20 [] [(2, r0), (0, x1), (0, x2)] M X = some ((0, (-1 : Int)), M, X) :=
  (zblk 107 zc107 rfl [20] 31 20 _ _ _ _).trans rfl
-- yX11_where
set_option maxRecDepth 20000 in
theorem q108_0 (r0 : Int) (x1 : Int) (x2 : Int) (M : zM) (X : zX) : zex 108 0 [] [(2, r0), (0, x1), (0, x2)] M X = zbI (zex 133 0 [] [(0, x2), (0, (0 : Int)), (0, (4 : Int))] M X) (fun v1 M1 X1 => if v1 = 0 then zex 108 10 [] [(2, r0), (0, x1), (0, x2)] M1 X1 else zbI (zex 133 0 [] [(0, x1), (0, (0 : Int)), (0, (4000 : Int))] M1 X1) (fun v2 M2 X2 => if v2 = 0 then zex 108 10 [] [(2, r0), (0, x1), (0, x2)] M2 X2 else zg (zkd X2 r0 = (17, 0) ∧ 0 < (M2 r0 0)) (zg (zkd X2 (M2 r0 0) = (6, 0)) (zbI (zex 6 0 [] [(2, (M2 r0 0)), (9, 0), (9, 0)] M2 X2) (fun v3 M3 X3 => if v3 ≤ 0 then zg (zkd X3 r0 = (17, 0) ∧ 0 < (M3 r0 4)) (zg (zkd X3 (M3 r0 4) = (12, 0)) (zbN (zex 60 0 [] [(2, (M3 r0 4)), (9, 0)] M3 X3) (fun M4 X4 => zg (zkd X4 r0 = (17, 0) ∧ 0 < (M4 r0 4)) (zg (zkd X4 (M4 r0 4) = (12, 0)) (zbN (zex 61 0 [] [(2, (M4 r0 4)), (9, 0)] M4 X4) (fun M5 X5 => zg (zkd X5 r0 = (17, 0) ∧ 0 < (M5 r0 4)) (zg (zkd X5 r0 = (17, 0) ∧ 0 < (M5 r0 3)) (zg (zkd X5 (M5 r0 3) = (15, 0)) (zbI (zex 221 0 [] [(0, x1), (0, (M5 (M5 r0 3) 3))] M5 X5) (fun v6 M6 X6 => zg (zkd X6 (M5 r0 4) = (12, 0)) (zbN (zex 64 0 [] [(2, (M5 r0 4)), (0, v6), (9, 0)] M6 X6) (fun M7 X7 => zg (zkd X7 r0 = (17, 0) ∧ 0 < (M7 r0 4)) (zg (zkd X7 (M7 r0 4) = (12, 0) ∧ 0 < (M7 (M7 r0 4) 2)) (zg (zkd X7 (M7 (M7 r0 4) 2) = (11, 0)) (zbI (zex 55 0 [] [(2, (M7 (M7 r0 4) 2)), (0, x2)] M7 X7) (fun v8 M8 X8 => some ((0, v8), M8, X8))))))))))))))))) else zg (1 ≤ X3.2.1 ∧ 6 ≤ X3.2.2) (some ((8, 1000 * ((2 : Nat) : Int) + ((19 : Nat) : Int)), M3, (X3.1, X3.2.1 - 1, X3.2.2 - 6)))))))) :=
  (zblk 108 zc108 rfl [10] 45 0 _ _ _ _).trans rfl
-- yX11_where
theorem q108_10 (r0 : Int) (x1 : Int) (x2 : Int) (M : zM) (X : zX) : zex 108 10 [] [(2, r0), (0, x1), (0, x2)] M X = zg (1 ≤ X.2.1 ∧ 6 ≤ X.2.2) (some ((8, 1000 * ((1 : Nat) : Int) + ((10 : Nat) : Int)), M, (X.1, X.2.1 - 1, X.2.2 - 6))) :=
  (zblk 108 zc108 rfl [10] 45 10 _ _ _ _).trans rfl
-- yX11_wish
theorem q109_0 (r0 : Int) (x1 : Int) (x2 : Int) (x3 : Int) (M : zM) (X : zX) : zex 109 0 [] [(2, r0), (0, x1), (0, x2), (0, x3)] M X = zbI (zex 137 0 [] [(0, x1), (0, x2), (0, x3)] M X) (fun v1 M1 X1 => if v1 = 0 then some ((0, (-1 : Int)), M1, X1) else zg (zkd X1 r0 = (17, 0) ∧ 0 < (M1 r0 6)) (zg (zkd X1 (M1 r0 6) = (16, 0)) (if (M1 (M1 r0 6) 1) < (20 : Int) then zg (zkd X1 r0 = (17, 0) ∧ 0 < (M1 r0 6)) (zg (zkd X1 (M1 r0 6) = (16, 0)) (zbN (zex 85 0 [] [(2, (M1 r0 6)), (0, x1), (0, x2), (0, x3)] M1 X1) (fun M2 X2 => zg (zkd X2 r0 = (17, 0) ∧ 0 < (M2 r0 6)) (zg (zkd X2 (M2 r0 6) = (16, 0)) (some ((0, (M2 (M2 r0 6) 1)), M2, X2)))))) else some ((0, (-2 : Int)), M1, X1)))) :=
  (zblk 109 zc109 rfl [] 25 0 _ _ _ _).trans rfl
-- yX11_wishless
theorem q110_0 (r0 : Int) (d1 : zV) (M : zM) (X : zX) : zex 110 0 [] [(2, r0), d1] M X = zg (zkd X r0 = (17, 0) ∧ 0 < (M r0 6)) (zg (zkd X (M r0 6) = (16, 0)) (zg (zkd X r0 = (17, 0) ∧ 0 < (M r0 6)) (zg (zkd X (M r0 6) = (16, 0)) (some ((0, (M (M r0 6) 1)), (zu M (M r0 6) 1 (0 : Int)), X))))) :=
  (zblk 110 zc110 rfl [] 11 0 _ _ _ _).trans rfl
-- yX11_way
set_option maxRecDepth 20000 in
theorem q111_0 (r0 : Int) (x1 : Int) (x2 : Int) (x3 : Int) (x4 : Int) (x5 : Int) (d6 : zV) (M : zM) (X : zX) : zex 111 0 [] [(2, r0), (0, x1), (0, x2), (0, x3), (0, x4), (0, x5), d6] M X = zbI (zex 135 0 [] [(0, x1), (0, x2)] M X) (fun v1 M1 X1 => if v1 = 0 then zex 111 13 [] [(2, r0), (0, x1), (0, x2), (0, x3), (0, x4), (0, x5), d6] M1 X1 else zbI (zex 133 0 [] [(0, x3), (0, (0 : Int)), (0, (3 : Int))] M1 X1) (fun v2 M2 X2 => if v2 = 0 then zex 111 13 [] [(2, r0), (0, x1), (0, x2), (0, x3), (0, x4), (0, x5), d6] M2 X2 else zbI (zex 135 0 [] [(0, x4), (0, x5)] M2 X2) (fun v3 M3 X3 => if v3 = 0 then zex 111 13 [] [(2, r0), (0, x1), (0, x2), (0, x3), (0, x4), (0, x5), d6] M3 X3 else zg (zkd X3 r0 = (17, 0) ∧ 0 < (M3 r0 2)) (zg (zkd X3 (M3 r0 2) = (9, 0)) (zbI (zex 36 0 [] [(2, (M3 r0 2)), (0, x1), (0, x2)] M3 X3) (fun v4 M4 X4 => if v4 = 0 then some ((0, (-4 : Int)), M4, X4) else zg (zkd X4 r0 = (17, 0) ∧ 0 < (M4 r0 2)) (zg (zkd X4 r0 = (17, 0) ∧ 0 < (M4 r0 0)) (zg (zkd X4 (M4 r0 0) = (6, 0)) (zg (zI ((4 : Int) * (M4 (M4 r0 0) 3))) (zg (zkd X4 (M4 r0 2) = (9, 0)) (zbI (zex 37 0 [] [(2, (M4 r0 2)), (0, x1), (0, x2), (0, x3), (0, x4), (0, x5), (0, ((4 : Int) * (M4 (M4 r0 0) 3))), (9, 0), (9, 0), (9, 0)] M4 X4) (fun v5 M5 X5 => if 0 ≤ v5 then zex 111 42 [(0, v5)] [(2, r0), (0, x1), (0, x2), (0, x3), (0, x4), (0, x5), (0, v5)] M5 X5 else zex 111 42 [(0, (-5 : Int))] [(2, r0), (0, x1), (0, x2), (0, x3), (0, x4), (0, x5), (0, v5)] M5 X5)))))))))))) :=
  (zblk 111 zc111 rfl [13, 42] 44 0 _ _ _ _).trans rfl
-- yX11_way
theorem q111_13 (r0 : Int) (x1 : Int) (x2 : Int) (x3 : Int) (x4 : Int) (x5 : Int) (d6 : zV) (M : zM) (X : zX) : zex 111 13 [] [(2, r0), (0, x1), (0, x2), (0, x3), (0, x4), (0, x5), d6] M X = some ((0, (-1 : Int)), M, X) :=
  (zblk 111 zc111 rfl [13, 42] 44 13 _ _ _ _).trans rfl
-- yX11_way
theorem q111_42 (s0 : Int) (r0 : Int) (x1 : Int) (x2 : Int) (x3 : Int) (x4 : Int) (x5 : Int) (x6 : Int) (M : zM) (X : zX) : zex 111 42 [(0, s0)] [(2, r0), (0, x1), (0, x2), (0, x3), (0, x4), (0, x5), (0, x6)] M X = some ((0, s0), M, X) :=
  (zblk 111 zc111 rfl [13, 42] 44 42 _ _ _ _).trans rfl
-- yX11_make
theorem q112_0 (r0 : Int) (d1 : zV) (d2 : zV) (M : zM) (X : zX) : zex 112 0 [] [(2, r0), d1, d2] M X = zg (zkd X r0 = (17, 0)) (zbI (zex 138 0 [] [(2, r0), (9, 0)] M X) (fun v1 M1 X1 => if v1 < 0 then zex 112 23 [] [(2, r0), (0, v1), d2] M1 X1 else zex 112 7 [] [(2, r0), (0, v1), (0, (0 : Int))] M1 X1)) :=
  (zblk 112 zc112 rfl [7, 23] 26 0 _ _ _ _).trans rfl
-- yX11_make
theorem q112_7 (r0 : Int) (x1 : Int) (x2 : Int) (M : zM) (X : zX) : zex 112 7 [] [(2, r0), (0, x1), (0, x2)] M X = if (3 : Int) ≤ x2 then zex 112 23 [] [(2, r0), (0, x1), (0, x2)] M X else zg (zkd X r0 = (17, 0) ∧ 0 < (M r0 0)) (zg (zkd X (M r0 0) = (6, 0) ∧ 0 < (M (M r0 0) 0)) (zg ((zkd X (M (M r0 0) 0)).1 = 3 ∧ 0 ≤ x2 ∧ x2 < ((zkd X (M (M r0 0) 0)).2 : Int) ∧ 0 < (M (M (M r0 0) 0) x2)) (zg (zkd X r0 = (17, 0) ∧ 0 < (M r0 6)) (zg (zkd X (M r0 6) = (16, 0) ∧ 0 < (M (M r0 6) 3)) (zg ((zkd X (M (M r0 6) 3)).1 = 3 ∧ 0 ≤ x2 ∧ x2 < ((zkd X (M (M r0 6) 3)).2 : Int) ∧ 0 < (M (M (M r0 6) 3) x2)) (zg (zkd X (M (M (M r0 0) 0) x2) = (7, 0)) (zbN (zex 14 0 [] [(2, (M (M (M r0 0) 0) x2)), (2, (M (M (M r0 6) 3) x2)), (9, 0)] M X) (fun M1 X1 => zg (zI (x2 + (1 : Int))) (zex 112 7 [] [(2, r0), (0, x1), (0, (x2 + (1 : Int)))] M1 X1))))))))) :=
  (zblk 112 zc112 rfl [7, 23] 26 7 _ _ _ _).trans rfl
-- yX11_make
theorem q112_23 (r0 : Int) (x1 : Int) (d2 : zV) (M : zM) (X : zX) : zex 112 23 [] [(2, r0), (0, x1), d2] M X = some ((0, x1), M, X) :=
  (zblk 112 zc112 rfl [7, 23] 26 23 _ _ _ _).trans rfl
-- yX11_spot
theorem q113_0 (r0 : Int) (x1 : Int) (x2 : Int) (x3 : Int) (M : zM) (X : zX) : zex 113 0 [] [(2, r0), (0, x1), (0, x2), (0, x3)] M X = zbI (zex 133 0 [] [(0, x1), (0, (1 : Int)), (0, (4000 : Int))] M X) (fun v1 M1 X1 => if v1 = 0 then zex 113 9 [] [(2, r0), (0, x1), (0, x2), (0, x3)] M1 X1 else zbI (zex 135 0 [] [(0, x2), (0, x3)] M1 X1) (fun v2 M2 X2 => if v2 = 0 then zex 113 9 [] [(2, r0), (0, x1), (0, x2), (0, x3)] M2 X2 else zg (zkd X2 r0 = (17, 0) ∧ 0 < (M2 r0 7)) (zg (zkd X2 (M2 r0 7) = (8, 0)) (if (M2 (M2 r0 7) 2) < (12 : Int) then zg (zkd X2 r0 = (17, 0) ∧ 0 < (M2 r0 7)) (zg (zkd X2 (M2 r0 7) = (8, 0)) (zbN (zex 17 0 [] [(2, (M2 r0 7)), (0, x1), (0, x2), (0, x3), (9, 0), (9, 0)] M2 X2) (fun M3 X3 => zg (zkd X3 r0 = (17, 0) ∧ 0 < (M3 r0 7)) (zg (zkd X3 (M3 r0 7) = (8, 0)) (some ((0, (M3 (M3 r0 7) 2)), M3, X3)))))) else some ((0, (-2 : Int)), M2, X2))))) :=
  (zblk 113 zc113 rfl [9] 29 0 _ _ _ _).trans rfl
-- yX11_spot
theorem q113_9 (r0 : Int) (x1 : Int) (x2 : Int) (x3 : Int) (M : zM) (X : zX) : zex 113 9 [] [(2, r0), (0, x1), (0, x2), (0, x3)] M X = some ((0, (-1 : Int)), M, X) :=
  (zblk 113 zc113 rfl [9] 29 9 _ _ _ _).trans rfl
-- yX11_spotless
theorem q114_0 (r0 : Int) (d1 : zV) (M : zM) (X : zX) : zex 114 0 [] [(2, r0), d1] M X = zg (zkd X r0 = (17, 0) ∧ 0 < (M r0 7)) (zg (zkd X (M r0 7) = (8, 0)) (zg (zkd X r0 = (17, 0) ∧ 0 < (M r0 7)) (zg (zkd X (M r0 7) = (8, 0)) (some ((0, (M (M r0 7) 2)), (zu M (M r0 7) 2 (0 : Int)), X))))) :=
  (zblk 114 zc114 rfl [] 11 0 _ _ _ _).trans rfl
-- yX11_miss
theorem q115_0 (r0 : Int) (M : zM) (X : zX) : zex 115 0 [] [(2, r0)] M X = zg (zkd X r0 = (17, 0) ∧ 0 < (M r0 0)) (zg (zkd X (M r0 0) = (6, 0)) (zbI (zex 6 0 [] [(2, (M r0 0)), (9, 0), (9, 0)] M X) (fun v1 M1 X1 => if v1 ≤ 0 then zg (zkd X1 r0 = (17, 0) ∧ 0 < (M1 r0 7)) (zg (zkd X1 (M1 r0 7) = (8, 0)) (zbI (zex 18 0 [] [(2, (M1 r0 7)), (9, 0), (9, 0)] M1 X1) (fun v2 M2 X2 => zex 115 9 [(0, v2)] [(2, r0)] M2 X2))) else zex 115 9 [(0, (-3 : Int))] [(2, r0)] M1 X1))) :=
  (zblk 115 zc115 rfl [9] 11 0 _ _ _ _).trans rfl
-- yX11_miss
theorem q115_9 (s0 : Int) (r0 : Int) (M : zM) (X : zX) : zex 115 9 [(0, s0)] [(2, r0)] M X = some ((0, s0), M, X) :=
  (zblk 115 zc115 rfl [9] 11 9 _ _ _ _).trans rfl
-- yX11_fillings
theorem q116_0 (r0 : Int) (M : zM) (X : zX) : zex 116 0 [] [(2, r0)] M X = zg (zkd X r0 = (17, 0) ∧ 0 < (M r0 0)) (zg (zkd X (M r0 0) = (6, 0)) (zbI (zex 6 0 [] [(2, (M r0 0)), (9, 0), (9, 0)] M X) (fun v1 M1 X1 => if v1 ≤ (6 : Int) then zg (zkd X1 r0 = (17, 0) ∧ 0 < (M1 r0 7)) (zg (zkd X1 (M1 r0 7) = (8, 0)) (zbN (zex 21 0 [] [(2, (M1 r0 7)), (9, 0), (9, 0), (9, 0), (9, 0), (9, 0)] M1 X1) (fun M2 X2 => zg (zkd X2 r0 = (17, 0) ∧ 0 < (M2 r0 7)) (zg (zkd X2 (M2 r0 7) = (8, 0)) (some ((0, (M2 (M2 r0 7) 11)), M2, X2)))))) else some ((0, (-6 : Int)), M1, X1)))) :=
  (zblk 116 zc116 rfl [] 15 0 _ _ _ _).trans rfl
-- yX11_filling
theorem q117_0 (r0 : Int) (x1 : Int) (M : zM) (X : zX) : zex 117 0 [] [(2, r0), (0, x1)] M X = if 0 ≤ x1 then zg (zkd X r0 = (17, 0) ∧ 0 < (M r0 0)) (zg (zkd X (M r0 0) = (6, 0)) (zbI (zex 6 0 [] [(2, (M r0 0)), (9, 0), (9, 0)] M X) (fun v1 M1 X1 => if v1 ≤ (6 : Int) then zg (zkd X1 r0 = (17, 0) ∧ 0 < (M1 r0 7)) (zg (zkd X1 (M1 r0 7) = (8, 0)) (zbN (zex 21 0 [] [(2, (M1 r0 7)), (9, 0), (9, 0), (9, 0), (9, 0), (9, 0)] M1 X1) (fun M2 X2 => zg (zkd X2 r0 = (17, 0) ∧ 0 < (M2 r0 7)) (zg (zkd X2 (M2 r0 7) = (8, 0)) (zbI (zex 19 0 [] [(2, (M2 r0 7)), (0, x1)] M2 X2) (fun v3 M3 X3 => some ((0, v3), M3, X3))))))) else some ((0, (-6 : Int)), M1, X1)))) else some ((0, (-1 : Int)), M, X) :=
  (zblk 117 zc117 rfl [] 20 0 _ _ _ _).trans rfl
-- yX11_fill
theorem q118_0 (r0 : Int) (x1 : Int) (d2 : zV) (M : zM) (X : zX) : zex 118 0 [] [(2, r0), (0, x1), d2] M X = zg (zkd X r0 = (17, 0) ∧ 0 < (M r0 0)) (zg (zkd X (M r0 0) = (6, 0)) (zbI (zex 6 0 [] [(2, (M r0 0)), (9, 0), (9, 0)] M X) (fun v1 M1 X1 => if x1 < 0 then zex 118 12 [] [(2, r0), (0, x1), (0, v1)] M1 X1 else zbL (zex 20 0 [] [(0, v1), (9, 0), (9, 0), (9, 0)] M1 X1) (fun v2 M2 X2 => if (zcmp x1 v2) < 0 then if v1 ≤ (6 : Int) then zg (zkd X2 r0 = (17, 0) ∧ 0 < (M2 r0 7)) (zg (zkd X2 (M2 r0 7) = (8, 0)) (zbN (zex 22 0 [] [(2, (M2 r0 7)), (0, x1), (9, 0), (9, 0)] M2 X2) (fun M3 X3 => some ((0, v1), M3, X3)))) else some ((0, (-6 : Int)), M2, X2) else zex 118 12 [] [(2, r0), (0, x1), (0, v1)] M2 X2)))) :=
  (zblk 118 zc118 rfl [12] 26 0 _ _ _ _).trans rfl
-- yX11_fill
theorem q118_12 (r0 : Int) (x1 : Int) (x2 : Int) (M : zM) (X : zX) : zex 118 12 [] [(2, r0), (0, x1), (0, x2)] M X = some ((0, (-1 : Int)), M, X) :=
  (zblk 118 zc118 rfl [12] 26 12 _ _ _ _).trans rfl
-- yX11_slips
theorem q119_0 (r0 : Int) (M : zM) (X : zX) : zex 119 0 [] [(2, r0)] M X = zg (zkd X r0 = (17, 0) ∧ 0 < (M r0 0)) (zg (zkd X (M r0 0) = (6, 0)) (zbI (zex 6 0 [] [(2, (M r0 0)), (9, 0), (9, 0)] M X) (fun v1 M1 X1 => if v1 ≤ 0 then zg (zkd X1 r0 = (17, 0) ∧ 0 < (M1 r0 7)) (zg (zkd X1 (M1 r0 7) = (8, 0)) (zbN (zex 23 0 [] [(2, (M1 r0 7)), (9, 0)] M1 X1) (fun M2 X2 => zg (zkd X2 r0 = (17, 0) ∧ 0 < (M2 r0 7)) (zg (zkd X2 (M2 r0 7) = (8, 0)) (some ((0, (M2 (M2 r0 7) 11)), M2, X2)))))) else some ((0, (-3 : Int)), M1, X1)))) :=
  (zblk 119 zc119 rfl [] 14 0 _ _ _ _).trans rfl
-- yX11_slip
theorem q120_0 (r0 : Int) (x1 : Int) (M : zM) (X : zX) : zex 120 0 [] [(2, r0), (0, x1)] M X = if 0 ≤ x1 then zg (zkd X r0 = (17, 0) ∧ 0 < (M r0 0)) (zg (zkd X (M r0 0) = (6, 0)) (zbI (zex 6 0 [] [(2, (M r0 0)), (9, 0), (9, 0)] M X) (fun v1 M1 X1 => if v1 ≤ 0 then zg (zkd X1 r0 = (17, 0) ∧ 0 < (M1 r0 7)) (zg (zkd X1 (M1 r0 7) = (8, 0)) (zbN (zex 23 0 [] [(2, (M1 r0 7)), (9, 0)] M1 X1) (fun M2 X2 => zg (zkd X2 r0 = (17, 0) ∧ 0 < (M2 r0 7)) (zg (zkd X2 (M2 r0 7) = (8, 0)) (zbI (zex 19 0 [] [(2, (M2 r0 7)), (0, x1)] M2 X2) (fun v3 M3 X3 => some ((0, v3), M3, X3))))))) else some ((0, (-3 : Int)), M1, X1)))) else some ((0, (-1 : Int)), M, X) :=
  (zblk 120 zc120 rfl [] 19 0 _ _ _ _).trans rfl
-- yX11_pair
theorem q121_0 (r0 : Int) (M : zM) (X : zX) : zex 121 0 [] [(2, r0)] M X = zg (zkd X r0 = (17, 0) ∧ 0 < (M r0 0)) (zg (zkd X (M r0 0) = (6, 0)) (zbI (zex 6 0 [] [(2, (M r0 0)), (9, 0), (9, 0)] M X) (fun v1 M1 X1 => if v1 ≤ 0 then zg (zkd X1 r0 = (17, 0) ∧ 0 < (M1 r0 7)) (zg (zkd X1 (M1 r0 7) = (8, 0)) (zbI (zex 24 0 [] [(2, (M1 r0 7)), (9, 0), (9, 0)] M1 X1) (fun v2 M2 X2 => zex 121 9 [(0, v2)] [(2, r0)] M2 X2))) else zex 121 9 [(0, (-3 : Int))] [(2, r0)] M1 X1))) :=
  (zblk 121 zc121 rfl [9] 11 0 _ _ _ _).trans rfl
-- yX11_pair
theorem q121_9 (s0 : Int) (r0 : Int) (M : zM) (X : zX) : zex 121 9 [(0, s0)] [(2, r0)] M X = some ((0, s0), M, X) :=
  (zblk 121 zc121 rfl [9] 11 9 _ _ _ _).trans rfl
-- yX11_reads
theorem q122_0 (r0 : Int) (d1 : zV) (d2 : zV) (M : zM) (X : zX) : zex 122 0 [] [(2, r0), d1, d2] M X = zg (zkd X r0 = (17, 0)) (zbI (zex 138 0 [] [(2, r0), (9, 0)] M X) (fun v1 M1 X1 => if 0 ≤ v1 then zex 122 9 [] [(2, r0), (0, v1), (0, (0 : Int))] M1 X1 else some ((0, v1), M1, X1))) :=
  (zblk 122 zc122 rfl [9] 31 0 _ _ _ _).trans rfl
-- yX11_reads
theorem q122_9 (r0 : Int) (x1 : Int) (x2 : Int) (M : zM) (X : zX) : zex 122 9 [] [(2, r0), (0, x1), (0, x2)] M X = if (3 : Int) ≤ x2 then some ((0, (1 : Int)), M, X) else zg (zkd X r0 = (17, 0) ∧ 0 < (M r0 0)) (zg (zkd X (M r0 0) = (6, 0) ∧ 0 < (M (M r0 0) 0)) (zg ((zkd X (M (M r0 0) 0)).1 = 3 ∧ 0 ≤ x2 ∧ x2 < ((zkd X (M (M r0 0) 0)).2 : Int) ∧ 0 < (M (M (M r0 0) 0) x2)) (zg (zkd X r0 = (17, 0) ∧ 0 < (M r0 6)) (zg (zkd X (M r0 6) = (16, 0) ∧ 0 < (M (M r0 6) 3)) (zg ((zkd X (M (M r0 6) 3)).1 = 3 ∧ 0 ≤ x2 ∧ x2 < ((zkd X (M (M r0 6) 3)).2 : Int) ∧ 0 < (M (M (M r0 6) 3) x2)) (zg (zkd X (M (M (M r0 0) 0) x2) = (7, 0)) (zbI (zex 15 0 [] [(2, (M (M (M r0 0) 0) x2)), (2, (M (M (M r0 6) 3) x2)), (9, 0)] M X) (fun v1 M1 X1 => if v1 = 0 then some ((0, (0 : Int)), M1, X1) else zg (zI (x2 + (1 : Int))) (zex 122 9 [] [(2, r0), (0, x1), (0, (x2 + (1 : Int)))] M1 X1))))))))) :=
  (zblk 122 zc122 rfl [9] 31 9 _ _ _ _).trans rfl
-- yX11_tape
theorem q123_0 (r0 : Int) (x1 : Int) (x2 : Int) (x3 : Int) (M : zM) (X : zX) : zex 123 0 [] [(2, r0), (0, x1), (0, x2), (0, x3)] M X = zbI (zex 136 0 [] [(0, x1)] M X) (fun v1 M1 X1 => if v1 = 0 then zex 123 11 [] [(2, r0), (0, x1), (0, x2), (0, x3)] M1 X1 else zbI (zex 133 0 [] [(0, x2), (0, (1 : Int)), (0, (4 : Int))] M1 X1) (fun v2 M2 X2 => if v2 = 0 then zex 123 11 [] [(2, r0), (0, x1), (0, x2), (0, x3)] M2 X2 else if x3 ≤ (64 : Int) then if 0 ≤ x3 then zg (zkd X2 r0 = (17, 0) ∧ 0 < (M2 r0 8)) (zg ((zkd X2 (M2 r0 8)).1 = 4 ∧ 0 ≤ x1 ∧ x1 < ((zkd X2 (M2 r0 8)).2 : Int) ∧ 0 < (M2 (M2 r0 8) x1)) (zg (zkd X2 (M2 (M2 r0 8) x1) = (14, 0)) (zbN (zex 76 0 [] [(2, (M2 (M2 r0 8) x1)), (0, x2), (0, x3)] M2 X2) (fun M3 X3 => some ((0, x3), M3, X3))))) else zg (zkd X2 r0 = (17, 0)) (zbI (zex 140 0 [] [(2, r0), (0, (-14 : Int))] M2 X2) (fun v4 M4 X4 => some ((0, v4), M4, X4))) else zex 123 11 [] [(2, r0), (0, x1), (0, x2), (0, x3)] M2 X2)) :=
  (zblk 123 zc123 rfl [11] 29 0 _ _ _ _).trans rfl
-- yX11_tape
theorem q123_11 (r0 : Int) (x1 : Int) (x2 : Int) (x3 : Int) (M : zM) (X : zX) : zex 123 11 [] [(2, r0), (0, x1), (0, x2), (0, x3)] M X = some ((0, (-1 : Int)), M, X) :=
  (zblk 123 zc123 rfl [11] 29 11 _ _ _ _).trans rfl
-- yX11_keep
set_option maxRecDepth 20000 in
theorem q124_0 (r0 : Int) (x1 : Int) (M : zM) (X : zX) : zex 124 0 [] [(2, r0), (0, x1)] M X = zbI (zex 136 0 [] [(0, x1)] M X) (fun v1 M1 X1 => if v1 = 0 then some ((0, (-1 : Int)), M1, X1) else zg (zkd X1 r0 = (17, 0) ∧ 0 < (M1 r0 8)) (zg ((zkd X1 (M1 r0 8)).1 = 4 ∧ 0 ≤ x1 ∧ x1 < ((zkd X1 (M1 r0 8)).2 : Int) ∧ 0 < (M1 (M1 r0 8) x1)) (zg (zkd X1 (M1 (M1 r0 8) x1) = (14, 0)) (zg (zkd X1 r0 = (17, 0) ∧ 0 < ((zu M1 (M1 (M1 r0 8) x1) 0 (5 : Int)) r0 8)) (zg ((zkd X1 ((zu M1 (M1 (M1 r0 8) x1) 0 (5 : Int)) r0 8)).1 = 4 ∧ 0 ≤ x1 ∧ x1 < ((zkd X1 ((zu M1 (M1 (M1 r0 8) x1) 0 (5 : Int)) r0 8)).2 : Int) ∧ 0 < ((zu M1 (M1 (M1 r0 8) x1) 0 (5 : Int)) ((zu M1 (M1 (M1 r0 8) x1) 0 (5 : Int)) r0 8) x1)) (zg (zkd X1 ((zu M1 (M1 (M1 r0 8) x1) 0 (5 : Int)) ((zu M1 (M1 (M1 r0 8) x1) 0 (5 : Int)) r0 8) x1) = (14, 0) ∧ 0 < ((zu M1 (M1 (M1 r0 8) x1) 0 (5 : Int)) ((zu M1 (M1 (M1 r0 8) x1) 0 (5 : Int)) ((zu M1 (M1 (M1 r0 8) x1) 0 (5 : Int)) r0 8) x1) 3)) (zg (zkd X1 r0 = (17, 0) ∧ 0 < ((zu M1 (M1 (M1 r0 8) x1) 0 (5 : Int)) r0 0)) (zg (zkd X1 ((zu M1 (M1 (M1 r0 8) x1) 0 (5 : Int)) ((zu M1 (M1 (M1 r0 8) x1) 0 (5 : Int)) ((zu M1 (M1 (M1 r0 8) x1) 0 (5 : Int)) r0 8) x1) 3) = (6, 0)) (zbN (zex 2 0 [] [(2, ((zu M1 (M1 (M1 r0 8) x1) 0 (5 : Int)) ((zu M1 (M1 (M1 r0 8) x1) 0 (5 : Int)) ((zu M1 (M1 (M1 r0 8) x1) 0 (5 : Int)) r0 8) x1) 3)), (2, ((zu M1 (M1 (M1 r0 8) x1) 0 (5 : Int)) r0 0)), (9, 0)] (zu M1 (M1 (M1 r0 8) x1) 0 (5 : Int)) X1) (fun M2 X2 => zg (zkd X2 r0 = (17, 0) ∧ 0 < (M2 r0 0)) (zg (zkd X2 (M2 r0 0) = (6, 0)) (zbI (zex 5 0 [] [(2, (M2 r0 0)), (9, 0), (9, 0)] M2 X2) (fun v3 M3 X3 => some ((0, v3), M3, X3)))))))))))))) :=
  (zblk 124 zc124 rfl [] 24 0 _ _ _ _).trans rfl
-- yX11_back
theorem q125_0 (r0 : Int) (x1 : Int) (d2 : zV) (M : zM) (X : zX) : zex 125 0 [] [(2, r0), (0, x1), d2] M X = zg (zkd X r0 = (17, 0)) (zbI (zex 139 0 [] [(2, r0), (0, x1)] M X) (fun v1 M1 X1 => if v1 = 0 then zg (zkd X1 r0 = (17, 0) ∧ 0 < (M1 r0 0)) (zg (zkd X1 r0 = (17, 0) ∧ 0 < (M1 r0 8)) (zg ((zkd X1 (M1 r0 8)).1 = 4 ∧ 0 ≤ x1 ∧ x1 < ((zkd X1 (M1 r0 8)).2 : Int) ∧ 0 < (M1 (M1 r0 8) x1)) (zg (zkd X1 (M1 (M1 r0 8) x1) = (14, 0) ∧ 0 < (M1 (M1 (M1 r0 8) x1) 3)) (zg (zkd X1 (M1 r0 0) = (6, 0)) (zbN (zex 2 0 [] [(2, (M1 r0 0)), (2, (M1 (M1 (M1 r0 8) x1) 3)), (9, 0)] M1 X1) (fun M2 X2 => zg (zkd X2 r0 = (17, 0) ∧ 0 < (M2 r0 0)) (zg (zkd X2 (M2 r0 0) = (6, 0)) (zbI (zex 5 0 [] [(2, (M2 r0 0)), (9, 0), (9, 0)] M2 X2) (fun v3 M3 X3 => some ((0, v3), M3, X3)))))))))) else some ((0, v1), M1, X1))) :=
  (zblk 125 zc125 rfl [] 21 0 _ _ _ _).trans rfl
-- yX11_toss
theorem q126_0 (r0 : Int) (x1 : Int) (d2 : zV) (d3 : zV) (M : zM) (X : zX) : zex 126 0 [] [(2, r0), (0, x1), d2, d3] M X = zg (zkd X r0 = (17, 0)) (zbI (zex 139 0 [] [(2, r0), (0, x1)] M X) (fun v1 M1 X1 => if v1 = 0 then zg (zkd X1 r0 = (17, 0) ∧ 0 < (M1 r0 8)) (zg ((zkd X1 (M1 r0 8)).1 = 4 ∧ 0 ≤ x1 ∧ x1 < ((zkd X1 (M1 r0 8)).2 : Int) ∧ 0 < (M1 (M1 r0 8) x1)) (zg (zkd X1 (M1 (M1 r0 8) x1) = (14, 0) ∧ 0 < (M1 (M1 (M1 r0 8) x1) 3)) (zex 126 13 [(2, (M1 (M1 (M1 r0 8) x1) 3))] [(2, r0), (0, x1), (0, v1), d3] M1 X1))) else some ((0, v1), M1, X1))) :=
  (zblk 126 zc126 rfl [13, 14, 16] 28 0 _ _ _ _).trans rfl
-- yX11_toss
theorem q126_14 (r0 : Int) (x1 : Int) (x2 : Int) (d3 : zV) (M : zM) (X : zX) : zex 126 14 [] [(2, r0), (0, x1), (0, x2), d3] M X = zg (zkd X r0 = (17, 0)) (zbI (zex 140 0 [] [(2, r0), (0, (-15 : Int))] M X) (fun v1 M1 X1 => some ((0, v1), M1, X1))) :=
  (zblk 126 zc126 rfl [13, 14, 16] 28 14 _ _ _ _).trans rfl
-- yX11_toss
theorem q126_16 (r0 : Int) (x1 : Int) (x2 : Int) (d3 : zV) (M : zM) (X : zX) : zex 126 16 [] [(2, r0), (0, x1), (0, x2), d3] M X = zg (zkd X r0 = (17, 0) ∧ 0 < (M r0 8)) (zg ((zkd X (M r0 8)).1 = 4 ∧ 0 ≤ x1 ∧ x1 < ((zkd X (M r0 8)).2 : Int) ∧ 0 < (M (M r0 8) x1)) (zg (zkd X (M (M r0 8) x1) = (14, 0) ∧ 0 < (M (M (M r0 8) x1) 3)) (zg (zkd X (M (M (M r0 8) x1) 3) = (6, 0)) (zbI (zex 6 0 [] [(2, (M (M (M r0 8) x1) 3)), (9, 0), (9, 0)] M X) (fun v1 M1 X1 => some ((0, v1), M1, X1)))))) :=
  (zblk 126 zc126 rfl [13, 14, 16] 28 16 _ _ _ _).trans rfl
-- yX11_clear
theorem q127_0 (r0 : Int) (x1 : Int) (d2 : zV) (M : zM) (X : zX) : zex 127 0 [] [(2, r0), (0, x1), d2] M X = zbI (zex 136 0 [] [(0, x1)] M X) (fun v1 M1 X1 => if v1 = 0 then some ((0, (-1 : Int)), M1, X1) else zg (zkd X1 r0 = (17, 0) ∧ 0 < (M1 r0 8)) (zg ((zkd X1 (M1 r0 8)).1 = 4 ∧ 0 ≤ x1 ∧ x1 < ((zkd X1 (M1 r0 8)).2 : Int) ∧ 0 < (M1 (M1 r0 8) x1)) (zg (zkd X1 (M1 (M1 r0 8) x1) = (14, 0)) (zg (zkd X1 r0 = (17, 0) ∧ 0 < (M1 r0 8)) (zg ((zkd X1 (M1 r0 8)).1 = 4 ∧ 0 ≤ x1 ∧ x1 < ((zkd X1 (M1 r0 8)).2 : Int) ∧ 0 < (M1 (M1 r0 8) x1)) (zg (zkd X1 (M1 (M1 r0 8) x1) = (14, 0)) (some ((0, (M1 (M1 (M1 r0 8) x1) 0)), (zu M1 (M1 (M1 r0 8) x1) 0 (0 : Int)), X1)))))))) :=
  (zblk 127 zc127 rfl [] 20 0 _ _ _ _).trans rfl
-- yX11_put
set_option maxRecDepth 20000 in
theorem q128_0 (r0 : Int) (x1 : Int) (x2 : Int) (x3 : Int) (d5 : zV) (M : zM) (X : zX) : zex 128 0 [] [(2, r0), (0, x1), (0, x2), (1, x3), (9, 0), d5] M X = zbI (zex 136 0 [] [(0, x1)] M X) (fun v1 M1 X1 => if v1 = 0 then some ((0, (-1 : Int)), M1, X1) else zg (zkd X1 r0 = (17, 0) ∧ 0 < (M1 r0 8)) (zg ((zkd X1 (M1 r0 8)).1 = 4 ∧ 0 ≤ x1 ∧ x1 < ((zkd X1 (M1 r0 8)).2 : Int) ∧ 0 < (M1 (M1 r0 8) x1)) (zg (zkd X1 (M1 (M1 r0 8) x1) = (14, 0)) (if (M1 (M1 (M1 r0 8) x1) 0) = 0 then zg (zkd X1 r0 = (17, 0)) (zbI (zex 140 0 [] [(2, r0), (0, (-11 : Int))] M1 X1) (fun v7 M7 X7 => some ((0, v7), M7, X7))) else zg (zkd X1 (M1 (M1 r0 8) x1) = (14, 0)) (zbI (zex 75 0 [] [(2, (M1 (M1 r0 8) x1))] M1 X1) (fun v2 M2 X2 => if v2 = 0 then zg (zkd X2 r0 = (17, 0)) (zbI (zex 140 0 [] [(2, r0), (0, (-12 : Int))] M2 X2) (fun v6 M6 X6 => some ((0, v6), M6, X6))) else zg (zkd X2 (M1 (M1 r0 8) x1) = (14, 0)) (zg (zI ((M2 (M1 (M1 r0 8) x1) 1) - (1 : Int))) (zbI (zex 133 0 [] [(0, x2), (0, (0 : Int)), (0, ((M2 (M1 (M1 r0 8) x1) 1) - (1 : Int)))] M2 X2) (fun v3 M3 X3 => if v3 = 0 then zg (zkd X3 r0 = (17, 0)) (zbI (zex 140 0 [] [(2, r0), (0, (-13 : Int))] M3 X3) (fun v5 M5 X5 => some ((0, v5), M5, X5))) else zg (zkd X3 (M1 (M1 r0 8) x1) = (14, 0) ∧ 0 < (M3 (M1 (M1 r0 8) x1) 2)) (zg (zkd X3 (M1 (M1 r0 8) x1) = (14, 0)) (zbL (zex 78 0 [] [(1, x3), (9, 0), (0, (M3 (M1 (M1 r0 8) x1) 0))] M3 X3) (fun v4 M4 X4 => zg ((zkd X4 (M3 (M1 (M1 r0 8) x1) 2)).1 = 1 ∧ 0 ≤ x2 ∧ x2 < ((zkd X4 (M3 (M1 (M1 r0 8) x1) 2)).2 : Int)) (some ((0, (1 : Int)), (zu M4 (M3 (M1 (M1 r0 8) x1) 2) x2 v4), X4)))))))))))))) :=
  (zblk 128 zc128 rfl [] 47 0 _ _ _ _).trans rfl
-- yX11_at
set_option maxRecDepth 20000 in
theorem q129_0 (r0 : Int) (x1 : Int) (x2 : Int) (d3 : zV) (M : zM) (X : zX) : zex 129 0 [] [(2, r0), (0, x1), (0, x2), d3] M X = zbI (zex 136 0 [] [(0, x1)] M X) (fun v1 M1 X1 => if v1 = 0 then zg (1 ≤ X1.2.1 ∧ 6 ≤ X1.2.2) (some ((8, 1000 * ((1 : Nat) : Int) + ((3 : Nat) : Int)), M1, (X1.1, X1.2.1 - 1, X1.2.2 - 6))) else zg (zkd X1 r0 = (17, 0) ∧ 0 < (M1 r0 8)) (zg ((zkd X1 (M1 r0 8)).1 = 4 ∧ 0 ≤ x1 ∧ x1 < ((zkd X1 (M1 r0 8)).2 : Int) ∧ 0 < (M1 (M1 r0 8) x1)) (zg (zkd X1 (M1 (M1 r0 8) x1) = (14, 0)) (zbI (zex 75 0 [] [(2, (M1 (M1 r0 8) x1))] M1 X1) (fun v2 M2 X2 => if v2 = 0 then zex 129 24 [] [(2, r0), (0, x1), (0, x2), (2, (M1 (M1 r0 8) x1))] M2 X2 else zg (zkd X2 (M1 (M1 r0 8) x1) = (14, 0)) (zg (zI ((M2 (M1 (M1 r0 8) x1) 1) - (1 : Int))) (zbI (zex 133 0 [] [(0, x2), (0, (0 : Int)), (0, ((M2 (M1 (M1 r0 8) x1) 1) - (1 : Int)))] M2 X2) (fun v3 M3 X3 => if v3 = 0 then zex 129 24 [] [(2, r0), (0, x1), (0, x2), (2, (M1 (M1 r0 8) x1))] M3 X3 else zg (zkd X3 (M1 (M1 r0 8) x1) = (14, 0) ∧ 0 < (M3 (M1 (M1 r0 8) x1) 2)) (zg ((zkd X3 (M3 (M1 (M1 r0 8) x1) 2)).1 = 1 ∧ 0 ≤ x2 ∧ x2 < ((zkd X3 (M3 (M1 (M1 r0 8) x1) 2)).2 : Int)) (some ((1, (M3 (M3 (M1 (M1 r0 8) x1) 2) x2)), M3, X3))))))))))) :=
  (zblk 129 zc129 rfl [24] 35 0 _ _ _ _).trans rfl
-- yX11_at
theorem q129_24 (r0 : Int) (x1 : Int) (x2 : Int) (r3 : Int) (M : zM) (X : zX) : zex 129 24 [] [(2, r0), (0, x1), (0, x2), (2, r3)] M X = zg (1 ≤ X.2.1 ∧ 6 ≤ X.2.2) (some ((8, 1000 * ((2 : Nat) : Int) + ((24 : Nat) : Int)), M, (X.1, X.2.1 - 1, X.2.2 - 6))) :=
  (zblk 129 zc129 rfl [24] 35 24 _ _ _ _).trans rfl
-- yX11_copy
set_option maxRecDepth 20000 in
theorem q130_0 (r0 : Int) (x1 : Int) (x2 : Int) (x3 : Int) (x4 : Int) (x5 : Int) (d6 : zV) (d7 : zV) (M : zM) (X : zX) : zex 130 0 [] [(2, r0), (0, x1), (0, x2), (0, x3), (0, x4), (0, x5), d6, d7] M X = zbI (zex 136 0 [] [(0, x1)] M X) (fun v1 M1 X1 => if v1 = 0 then zex 130 6 [] [(2, r0), (0, x1), (0, x2), (0, x3), (0, x4), (0, x5), d6, d7] M1 X1 else zbI (zex 136 0 [] [(0, x3)] M1 X1) (fun v2 M2 X2 => if v2 = 0 then zex 130 6 [] [(2, r0), (0, x1), (0, x2), (0, x3), (0, x4), (0, x5), d6, d7] M2 X2 else zg (zkd X2 r0 = (17, 0) ∧ 0 < (M2 r0 8)) (zg ((zkd X2 (M2 r0 8)).1 = 4 ∧ 0 ≤ x1 ∧ x1 < ((zkd X2 (M2 r0 8)).2 : Int) ∧ 0 < (M2 (M2 r0 8) x1)) (zg (zkd X2 r0 = (17, 0) ∧ 0 < (M2 r0 8)) (zg ((zkd X2 (M2 r0 8)).1 = 4 ∧ 0 ≤ x3 ∧ x3 < ((zkd X2 (M2 r0 8)).2 : Int) ∧ 0 < (M2 (M2 r0 8) x3)) (zg (zkd X2 (M2 (M2 r0 8) x1) = (14, 0)) (if (M2 (M2 (M2 r0 8) x1) 0) = 0 then zex 130 24 [] [(2, r0), (0, x1), (0, x2), (0, x3), (0, x4), (0, x5), (2, (M2 (M2 r0 8) x1)), (2, (M2 (M2 r0 8) x3))] M2 X2 else zg (zkd X2 (M2 (M2 r0 8) x3) = (14, 0)) (if (M2 (M2 (M2 r0 8) x3) 0) = 0 then zex 130 24 [] [(2, r0), (0, x1), (0, x2), (0, x3), (0, x4), (0, x5), (2, (M2 (M2 r0 8) x1)), (2, (M2 (M2 r0 8) x3))] M2 X2 else zg (zkd X2 (M2 (M2 r0 8) x1) = (14, 0)) (zbI (zex 75 0 [] [(2, (M2 (M2 r0 8) x1))] M2 X2) (fun v3 M3 X3 => if v3 = 0 then zex 130 36 [] [(2, r0), (0, x1), (0, x2), (0, x3), (0, x4), (0, x5), (2, (M2 (M2 r0 8) x1)), (2, (M2 (M2 r0 8) x3))] M3 X3 else zg (zkd X3 (M2 (M2 r0 8) x1) = (14, 0)) (zg (zkd X3 (M2 (M2 r0 8) x3) = (14, 0)) (if (M3 (M2 (M2 r0 8) x1) 0) = (M3 (M2 (M2 r0 8) x3) 0) then zg (zkd X3 (M2 (M2 r0 8) x1) = (14, 0)) (zbI (zex 77 0 [] [(2, (M2 (M2 r0 8) x1)), (0, x2), (0, x5)] M3 X3) (fun v4 M4 X4 => if v4 = 0 then zex 130 50 [] [(2, r0), (0, x1), (0, x2), (0, x3), (0, x4), (0, x5), (2, (M2 (M2 r0 8) x1)), (2, (M2 (M2 r0 8) x3))] M4 X4 else zg (zkd X4 (M2 (M2 r0 8) x3) = (14, 0)) (zbI (zex 77 0 [] [(2, (M2 (M2 r0 8) x3)), (0, x4), (0, x5)] M4 X4) (fun v5 M5 X5 => if v5 = 0 then zex 130 50 [] [(2, r0), (0, x1), (0, x2), (0, x3), (0, x4), (0, x5), (2, (M2 (M2 r0 8) x1)), (2, (M2 (M2 r0 8) x3))] M5 X5 else zg (zkd X5 (M2 (M2 r0 8) x1) = (14, 0) ∧ 0 < (M5 (M2 (M2 r0 8) x1) 2)) (zg (zkd X5 (M2 (M2 r0 8) x3) = (14, 0) ∧ 0 < (M5 (M2 (M2 r0 8) x3) 2)) (zg ((zkd X5 (M5 (M2 (M2 r0 8) x1) 2)).1 = 1 ∧ (zkd X5 (M5 (M2 (M2 r0 8) x3) 2)).1 = 1 ∧ 0 ≤ x5 ∧ 0 ≤ x4 ∧ 0 ≤ x2 ∧ x2 + x5 ≤ ((zkd X5 (M5 (M2 (M2 r0 8) x1) 2)).2 : Int) ∧ x4 + x5 ≤ ((zkd X5 (M5 (M2 (M2 r0 8) x3) 2)).2 : Int)) (some ((0, x5), (zcpy M5 (M5 (M2 (M2 r0 8) x1) 2) x2 (M5 (M2 (M2 r0 8) x3) 2) x4 x5), X5)))))))) else zex 130 36 [] [(2, r0), (0, x1), (0, x2), (0, x3), (0, x4), (0, x5), (2, (M2 (M2 r0 8) x1)), (2, (M2 (M2 r0 8) x3))] M3 X3)))))))))))) :=
  (zblk 130 zc130 rfl [6, 24, 36, 50] 65 0 _ _ _ _).trans rfl
-- yX11_copy
theorem q130_6 (r0 : Int) (x1 : Int) (x2 : Int) (x3 : Int) (x4 : Int) (x5 : Int) (d6 : zV) (d7 : zV) (M : zM) (X : zX) : zex 130 6 [] [(2, r0), (0, x1), (0, x2), (0, x3), (0, x4), (0, x5), d6, d7] M X = some ((0, (-1 : Int)), M, X) :=
  (zblk 130 zc130 rfl [6, 24, 36, 50] 65 6 _ _ _ _).trans rfl
-- yX11_copy
theorem q130_24 (r0 : Int) (x1 : Int) (x2 : Int) (x3 : Int) (x4 : Int) (x5 : Int) (r6 : Int) (r7 : Int) (M : zM) (X : zX) : zex 130 24 [] [(2, r0), (0, x1), (0, x2), (0, x3), (0, x4), (0, x5), (2, r6), (2, r7)] M X = zg (zkd X r0 = (17, 0)) (zbI (zex 140 0 [] [(2, r0), (0, (-11 : Int))] M X) (fun v1 M1 X1 => some ((0, v1), M1, X1))) :=
  (zblk 130 zc130 rfl [6, 24, 36, 50] 65 24 _ _ _ _).trans rfl
-- yX11_copy
theorem q130_36 (r0 : Int) (x1 : Int) (x2 : Int) (x3 : Int) (x4 : Int) (x5 : Int) (r6 : Int) (r7 : Int) (M : zM) (X : zX) : zex 130 36 [] [(2, r0), (0, x1), (0, x2), (0, x3), (0, x4), (0, x5), (2, r6), (2, r7)] M X = zg (zkd X r0 = (17, 0)) (zbI (zex 140 0 [] [(2, r0), (0, (-12 : Int))] M X) (fun v1 M1 X1 => some ((0, v1), M1, X1))) :=
  (zblk 130 zc130 rfl [6, 24, 36, 50] 65 36 _ _ _ _).trans rfl
-- yX11_copy
theorem q130_50 (r0 : Int) (x1 : Int) (x2 : Int) (x3 : Int) (x4 : Int) (x5 : Int) (r6 : Int) (r7 : Int) (M : zM) (X : zX) : zex 130 50 [] [(2, r0), (0, x1), (0, x2), (0, x3), (0, x4), (0, x5), (2, r6), (2, r7)] M X = zg (zkd X r0 = (17, 0)) (zbI (zex 140 0 [] [(2, r0), (0, (-13 : Int))] M X) (fun v1 M1 X1 => some ((0, v1), M1, X1))) :=
  (zblk 130 zc130 rfl [6, 24, 36, 50] 65 50 _ _ _ _).trans rfl
-- yX11_count
set_option maxRecDepth 20000 in
theorem q131_0 (r0 : Int) (x1 : Int) (M : zM) (X : zX) : zex 131 0 [] [(2, r0), (0, x1)] M X = if x1 = (0 : Int) then zg (zkd X r0 = (17, 0) ∧ 0 < (M r0 0)) (zg (zkd X (M r0 0) = (6, 0)) (zbI (zex 5 0 [] [(2, (M r0 0)), (9, 0), (9, 0)] M X) (fun v2 M2 X2 => some ((0, v2), M2, X2)))) else if x1 = (1 : Int) then zg (zkd X r0 = (17, 0) ∧ 0 < (M r0 0)) (zg (zkd X (M r0 0) = (6, 0)) (some ((0, (M (M r0 0) 2)), M, X))) else if x1 = (2 : Int) then zg (zkd X r0 = (17, 0) ∧ 0 < (M r0 2)) (zg (zkd X (M r0 2) = (9, 0)) (some ((0, (M (M r0 2) 1)), M, X))) else if x1 = (3 : Int) then zg (zkd X r0 = (17, 0) ∧ 0 < (M r0 6)) (zg (zkd X (M r0 6) = (16, 0)) (some ((0, (M (M r0 6) 1)), M, X))) else if x1 = (4 : Int) then zg (zkd X r0 = (17, 0) ∧ 0 < (M r0 7)) (zg (zkd X (M r0 7) = (8, 0)) (some ((0, (M (M r0 7) 2)), M, X))) else if x1 = (5 : Int) then zg (zkd X r0 = (17, 0) ∧ 0 < (M r0 0)) (zg (zkd X (M r0 0) = (6, 0)) (zbI (zex 6 0 [] [(2, (M r0 0)), (9, 0), (9, 0)] M X) (fun v1 M1 X1 => some ((0, v1), M1, X1)))) else if x1 = (6 : Int) then zg (zkd X r0 = (17, 0)) (some ((0, (M r0 9)), M, X)) else some ((0, (-1 : Int)), M, X) :=
  (zblk 131 zc131 rfl [] 32 0 _ _ _ _).trans rfl
-- yX11_reset
theorem q132_0 (r0 : Int) (M : zM) (X : zX) : zex 132 0 [] [(2, r0)] M X = zg (zkd X r0 = (17, 0) ∧ 0 < (M r0 0)) (zg (zkd X (M r0 0) = (6, 0)) (zbN (zex 1 0 [] [(2, (M r0 0)), (9, 0)] M X) (fun M1 X1 => zg (zkd X1 r0 = (17, 0) ∧ 0 < (M1 r0 2)) (zg (zkd X1 (M1 r0 2) = (9, 0)) (zbN (zex 34 0 [] [(2, (M1 r0 2)), (9, 0)] M1 X1) (fun M2 X2 => zg (zkd X2 r0 = (17, 0) ∧ 0 < (M2 r0 1)) (zg (zkd X2 (M2 r0 1) = (11, 0)) (zbN (zex 51 0 [] [(2, (M2 r0 1)), (0, (0 : Int)), (0, (0 : Int)), (0, (0 : Int))] M2 X2) (fun M3 X3 => zg (zkd X3 r0 = (17, 0) ∧ 0 < (M3 r0 3)) (zg (zkd X3 (M3 r0 3) = (15, 0)) (zbN (zex 80 0 [] [(2, (M3 r0 3))] M3 X3) (fun M4 X4 => zg (zkd X4 r0 = (17, 0) ∧ 0 < (M4 r0 6)) (zg (zkd X4 (M4 r0 6) = (16, 0)) (zex 132 19 [] [(2, r0)] (zu M4 (M4 r0 6) 1 (0 : Int)) X4)))))))))))))) :=
  (zblk 132 zc132 rfl [19, 23, 27, 30] 32 0 _ _ _ _).trans rfl
-- yX11_reset
theorem q132_19 (r0 : Int) (M : zM) (X : zX) : zex 132 19 [] [(2, r0)] M X = zg (zkd X r0 = (17, 0) ∧ 0 < (M r0 7)) (zg (zkd X (M r0 7) = (8, 0)) (zex 132 23 [] [(2, r0)] (zu M (M r0 7) 2 (0 : Int)) X)) :=
  (zblk 132 zc132 rfl [19, 23, 27, 30] 32 19 _ _ _ _).trans rfl
-- yX11_reset
theorem q132_23 (r0 : Int) (M : zM) (X : zX) : zex 132 23 [] [(2, r0)] M X = zg (zkd X r0 = (17, 0) ∧ 0 < (M r0 5)) (zg (zkd X (M r0 5) = (13, 0) ∧ ((0 : Int) = 0 ∨ (0 : Int) = 1)) (zex 132 27 [] [(2, r0)] (zu M (M r0 5) 0 (0 : Int)) X)) :=
  (zblk 132 zc132 rfl [19, 23, 27, 30] 32 23 _ _ _ _).trans rfl
-- yX11_reset
theorem q132_27 (r0 : Int) (M : zM) (X : zX) : zex 132 27 [] [(2, r0)] M X = zg (zkd X r0 = (17, 0)) (zex 132 30 [] [(2, r0)] (zu M r0 9 (0 : Int)) X) :=
  (zblk 132 zc132 rfl [19, 23, 27, 30] 32 27 _ _ _ _).trans rfl
-- yX11_reset
theorem q132_30 (r0 : Int) (M : zM) (X : zX) : zex 132 30 [] [(2, r0)] M X = some ((9, 0), M, X) :=
  (zblk 132 zc132 rfl [19, 23, 27, 30] 32 30 _ _ _ _).trans rfl
-- yX11_isIn
theorem q133_0 (x0 : Int) (x1 : Int) (x2 : Int) (M : zM) (X : zX) : zex 133 0 [] [(0, x0), (0, x1), (0, x2)] M X = if x0 < x1 then zex 133 8 [] [(0, x0), (0, x1), (0, x2)] M X else if x2 < x0 then zex 133 8 [] [(0, x0), (0, x1), (0, x2)] M X else zex 133 9 [(0, (1 : Int))] [(0, x0), (0, x1), (0, x2)] M X :=
  (zblk 133 zc133 rfl [8, 9] 11 0 _ _ _ _).trans rfl
-- yX11_isIn
theorem q133_8 (x0 : Int) (x1 : Int) (x2 : Int) (M : zM) (X : zX) : zex 133 8 [] [(0, x0), (0, x1), (0, x2)] M X = zex 133 9 [(0, (0 : Int))] [(0, x0), (0, x1), (0, x2)] M X :=
  (zblk 133 zc133 rfl [8, 9] 11 8 _ _ _ _).trans rfl
-- yX11_isIn
theorem q133_9 (s0 : Int) (x0 : Int) (x1 : Int) (x2 : Int) (M : zM) (X : zX) : zex 133 9 [(0, s0)] [(0, x0), (0, x1), (0, x2)] M X = zg (s0 = 0 ∨ s0 = 1) (some ((0, s0), M, X)) :=
  (zblk 133 zc133 rfl [8, 9] 11 9 _ _ _ _).trans rfl
-- yX11_isAxle
theorem q134_0 (x0 : Int) (M : zM) (X : zX) : zex 134 0 [] [(0, x0)] M X = zbI (zex 133 0 [] [(0, x0), (0, (0 : Int)), (0, (2 : Int))] M X) (fun v1 M1 X1 => zg (v1 = 0 ∨ v1 = 1) (some ((0, v1), M1, X1))) :=
  (zblk 134 zc134 rfl [] 6 0 _ _ _ _).trans rfl
-- yX11_isCell
theorem q135_0 (x0 : Int) (x1 : Int) (M : zM) (X : zX) : zex 135 0 [] [(0, x0), (0, x1)] M X = zbI (zex 133 0 [] [(0, x0), (0, (0 : Int)), (0, (31 : Int))] M X) (fun v1 M1 X1 => if v1 = 0 then zex 135 12 [] [(0, x0), (0, x1)] M1 X1 else zbI (zex 133 0 [] [(0, x1), (0, (0 : Int)), (0, (31 : Int))] M1 X1) (fun v2 M2 X2 => if v2 = 0 then zex 135 12 [] [(0, x0), (0, x1)] M2 X2 else zex 135 13 [(0, (1 : Int))] [(0, x0), (0, x1)] M2 X2)) :=
  (zblk 135 zc135 rfl [12, 13] 15 0 _ _ _ _).trans rfl
-- yX11_isCell
theorem q135_12 (x0 : Int) (x1 : Int) (M : zM) (X : zX) : zex 135 12 [] [(0, x0), (0, x1)] M X = zex 135 13 [(0, (0 : Int))] [(0, x0), (0, x1)] M X :=
  (zblk 135 zc135 rfl [12, 13] 15 12 _ _ _ _).trans rfl
-- yX11_isCell
theorem q135_13 (s0 : Int) (x0 : Int) (x1 : Int) (M : zM) (X : zX) : zex 135 13 [(0, s0)] [(0, x0), (0, x1)] M X = zg (s0 = 0 ∨ s0 = 1) (some ((0, s0), M, X)) :=
  (zblk 135 zc135 rfl [12, 13] 15 13 _ _ _ _).trans rfl
-- yX11_isTape
theorem q136_0 (x0 : Int) (M : zM) (X : zX) : zex 136 0 [] [(0, x0)] M X = zbI (zex 133 0 [] [(0, x0), (0, (0 : Int)), (0, (5 : Int))] M X) (fun v1 M1 X1 => zg (v1 = 0 ∨ v1 = 1) (some ((0, v1), M1, X1))) :=
  (zblk 136 zc136 rfl [] 6 0 _ _ _ _).trans rfl
-- yX11_isPart
set_option maxRecDepth 20000 in
theorem q137_0 (x0 : Int) (x1 : Int) (x2 : Int) (M : zM) (X : zX) : zex 137 0 [] [(0, x0), (0, x1), (0, x2)] M X = if x0 = (0 : Int) then zbI (zex 135 0 [] [(0, x1), (0, x2)] M X) (fun v4 M4 X4 => zg (v4 = 0 ∨ v4 = 1) (some ((0, v4), M4, X4))) else if x0 = (1 : Int) then zbI (zex 133 0 [] [(0, x1), (0, (1 : Int)), (0, (99 : Int))] M X) (fun v3 M3 X3 => if v3 = 0 then zex 137 15 [] [(0, x0), (0, x1), (0, x2)] M3 X3 else if x2 = 0 then zex 137 16 [(0, (1 : Int))] [(0, x0), (0, x1), (0, x2)] M3 X3 else zex 137 15 [] [(0, x0), (0, x1), (0, x2)] M3 X3) else if x0 = (2 : Int) then zbI (zex 133 0 [] [(0, x1), (0, (1 : Int)), (0, (99 : Int))] M X) (fun v2 M2 X2 => if v2 = 0 then zex 137 15 [] [(0, x0), (0, x1), (0, x2)] M2 X2 else if x2 = 0 then zex 137 16 [(0, (1 : Int))] [(0, x0), (0, x1), (0, x2)] M2 X2 else zex 137 15 [] [(0, x0), (0, x1), (0, x2)] M2 X2) else if x0 = (3 : Int) then zbI (zex 133 0 [] [(0, x1), (0, (0 : Int)), (0, (3 : Int))] M X) (fun v1 M1 X1 => if v1 = 0 then zex 137 26 [] [(0, x0), (0, x1), (0, x2)] M1 X1 else if x2 = 0 then zex 137 27 [(0, (1 : Int))] [(0, x0), (0, x1), (0, x2)] M1 X1 else zex 137 26 [] [(0, x0), (0, x1), (0, x2)] M1 X1) else zg ((0 : Int) = 0 ∨ (0 : Int) = 1) (some ((0, (0 : Int)), M, X)) :=
  (zblk 137 zc137 rfl [15, 16, 26, 27] 31 0 _ _ _ _).trans rfl
-- yX11_isPart
theorem q137_15 (x0 : Int) (x1 : Int) (x2 : Int) (M : zM) (X : zX) : zex 137 15 [] [(0, x0), (0, x1), (0, x2)] M X = zex 137 16 [(0, (0 : Int))] [(0, x0), (0, x1), (0, x2)] M X :=
  (zblk 137 zc137 rfl [15, 16, 26, 27] 31 15 _ _ _ _).trans rfl
-- yX11_isPart
theorem q137_16 (s0 : Int) (x0 : Int) (x1 : Int) (x2 : Int) (M : zM) (X : zX) : zex 137 16 [(0, s0)] [(0, x0), (0, x1), (0, x2)] M X = zg (s0 = 0 ∨ s0 = 1) (some ((0, s0), M, X)) :=
  (zblk 137 zc137 rfl [15, 16, 26, 27] 31 16 _ _ _ _).trans rfl
-- yX11_isPart
theorem q137_26 (x0 : Int) (x1 : Int) (x2 : Int) (M : zM) (X : zX) : zex 137 26 [] [(0, x0), (0, x1), (0, x2)] M X = zex 137 27 [(0, (0 : Int))] [(0, x0), (0, x1), (0, x2)] M X :=
  (zblk 137 zc137 rfl [15, 16, 26, 27] 31 26 _ _ _ _).trans rfl
-- yX11_isPart
theorem q137_27 (s0 : Int) (x0 : Int) (x1 : Int) (x2 : Int) (M : zM) (X : zX) : zex 137 27 [(0, s0)] [(0, x0), (0, x1), (0, x2)] M X = zg (s0 = 0 ∨ s0 = 1) (some ((0, s0), M, X)) :=
  (zblk 137 zc137 rfl [15, 16, 26, 27] 31 27 _ _ _ _).trans rfl
-- yX11_makeWindings
set_option maxRecDepth 20000 in
theorem q138_0 (r0 : Int) (d1 : zV) (M : zM) (X : zX) : zex 138 0 [] [(2, r0), d1] M X = zg (zkd X r0 = (17, 0) ∧ 0 < (M r0 1)) (zg (zkd X (M r0 1) = (11, 0)) (zg (0 < (4 : Int)) (if (Int.tmod (M (M r0 1) 2) (4 : Int)) = 0 then zg (zkd X r0 = (17, 0) ∧ 0 < (M r0 2)) (zg (zkd X r0 = (17, 0) ∧ 0 < (M r0 1)) (zg (zkd X (M r0 1) = (11, 0)) (zbI (zex 53 0 [] [(2, (M r0 1))] M X) (fun v1 M1 X1 => zg (zkd X1 r0 = (17, 0) ∧ 0 < (M1 r0 1)) (zg (zkd X1 (M1 r0 1) = (11, 0)) (zbI (zex 54 0 [] [(2, (M1 r0 1))] M1 X1) (fun v2 M2 X2 => zg (zkd X2 (M r0 2) = (9, 0)) (zbI (zex 36 0 [] [(2, (M r0 2)), (0, v1), (0, v2)] M2 X2) (fun v3 M3 X3 => if v3 = 0 then some ((0, (-4 : Int)), M3, X3) else zg (zkd X3 r0 = (17, 0) ∧ 0 < (M3 r0 6)) (zg (zkd X3 r0 = (17, 0) ∧ 0 < (M3 r0 1)) (zg (zkd X3 r0 = (17, 0) ∧ 0 < (M3 r0 0)) (zg (zkd X3 (M3 r0 0) = (6, 0)) (zg (zkd X3 (M3 r0 6) = (16, 0)) (zbI (zex 86 0 [] [(2, (M3 r0 6)), (2, (M3 r0 1)), (0, (M3 (M3 r0 0) 3)), (9, 0), (9, 0)] M3 X3) (fun v4 M4 X4 => if 0 ≤ v4 then zg (zkd X4 r0 = (17, 0) ∧ 0 < (M4 r0 6)) (zg (zkd X4 (M4 r0 6) = (16, 0)) (if (M4 (M4 r0 6) 4) = 0 then zg (zkd X4 r0 = (17, 0) ∧ 0 < (M4 r0 3)) (zg (zkd X4 (M4 r0 3) = (15, 0)) (if v4 ≤ (M4 (M4 r0 3) 3) then zex 138 47 [(0, v4)] [(2, r0), (0, v4)] M4 X4 else zex 138 47 [(0, (-6 : Int))] [(2, r0), (0, v4)] M4 X4)) else some ((0, (-2 : Int)), M4, X4))) else some ((0, v4), M4, X4)))))))))))))))) else some ((0, (-5 : Int)), M, X)))) :=
  (zblk 138 zc138 rfl [47] 49 0 _ _ _ _).trans rfl
-- yX11_makeWindings
theorem q138_47 (s0 : Int) (r0 : Int) (x1 : Int) (M : zM) (X : zX) : zex 138 47 [(0, s0)] [(2, r0), (0, x1)] M X = some ((0, s0), M, X) :=
  (zblk 138 zc138 rfl [47] 49 47 _ _ _ _).trans rfl
-- yX11_refusalOfCart
theorem q139_0 (r0 : Int) (x1 : Int) (M : zM) (X : zX) : zex 139 0 [] [(2, r0), (0, x1)] M X = zbI (zex 136 0 [] [(0, x1)] M X) (fun v1 M1 X1 => if v1 = 0 then some ((0, (-1 : Int)), M1, X1) else zg (zkd X1 r0 = (17, 0) ∧ 0 < (M1 r0 8)) (zg ((zkd X1 (M1 r0 8)).1 = 4 ∧ 0 ≤ x1 ∧ x1 < ((zkd X1 (M1 r0 8)).2 : Int) ∧ 0 < (M1 (M1 r0 8) x1)) (zg (zkd X1 (M1 (M1 r0 8) x1) = (14, 0)) (if (M1 (M1 (M1 r0 8) x1) 0) = 0 then zg (zkd X1 r0 = (17, 0)) (zbI (zex 140 0 [] [(2, r0), (0, (-11 : Int))] M1 X1) (fun v3 M3 X3 => some ((0, v3), M3, X3))) else zg (zkd X1 r0 = (17, 0) ∧ 0 < (M1 r0 8)) (zg ((zkd X1 (M1 r0 8)).1 = 4 ∧ 0 ≤ x1 ∧ x1 < ((zkd X1 (M1 r0 8)).2 : Int) ∧ 0 < (M1 (M1 r0 8) x1)) (zg (zkd X1 (M1 (M1 r0 8) x1) = (14, 0)) (if (M1 (M1 (M1 r0 8) x1) 0) = (5 : Int) then zex 139 27 [(0, (0 : Int))] [(2, r0), (0, x1)] M1 X1 else zg (zkd X1 r0 = (17, 0)) (zbI (zex 140 0 [] [(2, r0), (0, (-12 : Int))] M1 X1) (fun v2 M2 X2 => zex 139 27 [(0, v2)] [(2, r0), (0, x1)] M2 X2))))))))) :=
  (zblk 139 zc139 rfl [27] 29 0 _ _ _ _).trans rfl
-- yX11_refusalOfCart
theorem q139_27 (s0 : Int) (r0 : Int) (x1 : Int) (M : zM) (X : zX) : zex 139 27 [(0, s0)] [(2, r0), (0, x1)] M X = some ((0, s0), M, X) :=
  (zblk 139 zc139 rfl [27] 29 27 _ _ _ _).trans rfl
-- yX11_refusedByHost
theorem q140_0 (r0 : Int) (x1 : Int) (M : zM) (X : zX) : zex 140 0 [] [(2, r0), (0, x1)] M X = zg (zkd X r0 = (17, 0)) (zg (zI ((M r0 9) + (1 : Int))) (zg (zkd X r0 = (17, 0)) (some ((0, x1), (zu M r0 9 ((M r0 9) + (1 : Int))), X)))) :=
  (zblk 140 zc140 rfl [] 9 0 _ _ _ _).trans rfl
-- yX12_init
theorem q141_0 (r0 : Int) (M : zM) (X : zX) : zex 141 0 [] [(2, r0)] M X = zg (0 ≤ (3 : Int) ∧ (3 : Int) ≤ 65536 ∧ 1 ≤ X.2.1 ∧ Int.toNat (3 : Int) ≤ X.2.2) (zg (zkd (X.1 ++ [(0, Int.toNat (3 : Int))], X.2.1 - 1, X.2.2 - Int.toNat (3 : Int)) r0 = (18, 0)) (zex 141 6 [] [(2, r0)] (zu (zclr M ((X.1.length : Int) + 1)) r0 1 ((X.1.length : Int) + 1)) (X.1 ++ [(0, Int.toNat (3 : Int))], X.2.1 - 1, X.2.2 - Int.toNat (3 : Int)))) :=
  (zblk 141 zc141 rfl [6, 10, 14, 18, 21, 25, 29, 33, 36, 40, 43, 46, 50, 54, 58, 62, 66, 70, 74, 78, 82, 86, 90, 94, 98, 102, 106, 110, 114, 118, 122, 126, 130, 134, 138, 142, 146, 150, 154, 158, 162, 166, 170, 174, 178, 182, 186, 191] 193 0 _ _ _ _).trans rfl
-- yX12_init
theorem q141_6 (r0 : Int) (M : zM) (X : zX) : zex 141 6 [] [(2, r0)] M X = zg (0 ≤ (120 : Int) ∧ (120 : Int) ≤ 65536 ∧ 1 ≤ X.2.1 ∧ Int.toNat (120 : Int) ≤ X.2.2) (zg (zkd (X.1 ++ [(0, Int.toNat (120 : Int))], X.2.1 - 1, X.2.2 - Int.toNat (120 : Int)) r0 = (18, 0)) (zex 141 10 [] [(2, r0)] (zu (zclr M ((X.1.length : Int) + 1)) r0 2 ((X.1.length : Int) + 1)) (X.1 ++ [(0, Int.toNat (120 : Int))], X.2.1 - 1, X.2.2 - Int.toNat (120 : Int)))) :=
  (zblk 141 zc141 rfl [6, 10, 14, 18, 21, 25, 29, 33, 36, 40, 43, 46, 50, 54, 58, 62, 66, 70, 74, 78, 82, 86, 90, 94, 98, 102, 106, 110, 114, 118, 122, 126, 130, 134, 138, 142, 146, 150, 154, 158, 162, 166, 170, 174, 178, 182, 186, 191] 193 6 _ _ _ _).trans rfl
-- yX12_init
theorem q141_10 (r0 : Int) (M : zM) (X : zX) : zex 141 10 [] [(2, r0)] M X = zg (0 ≤ (120 : Int) ∧ (120 : Int) ≤ 65536 ∧ 1 ≤ X.2.1 ∧ Int.toNat (120 : Int) ≤ X.2.2) (zg (zkd (X.1 ++ [(0, Int.toNat (120 : Int))], X.2.1 - 1, X.2.2 - Int.toNat (120 : Int)) r0 = (18, 0)) (zex 141 14 [] [(2, r0)] (zu (zclr M ((X.1.length : Int) + 1)) r0 3 ((X.1.length : Int) + 1)) (X.1 ++ [(0, Int.toNat (120 : Int))], X.2.1 - 1, X.2.2 - Int.toNat (120 : Int)))) :=
  (zblk 141 zc141 rfl [6, 10, 14, 18, 21, 25, 29, 33, 36, 40, 43, 46, 50, 54, 58, 62, 66, 70, 74, 78, 82, 86, 90, 94, 98, 102, 106, 110, 114, 118, 122, 126, 130, 134, 138, 142, 146, 150, 154, 158, 162, 166, 170, 174, 178, 182, 186, 191] 193 10 _ _ _ _).trans rfl
-- yX12_init
theorem q141_14 (r0 : Int) (M : zM) (X : zX) : zex 141 14 [] [(2, r0)] M X = zg (0 ≤ (120 : Int) ∧ (120 : Int) ≤ 65536 ∧ 1 ≤ X.2.1 ∧ Int.toNat (120 : Int) ≤ X.2.2) (zg (zkd (X.1 ++ [(0, Int.toNat (120 : Int))], X.2.1 - 1, X.2.2 - Int.toNat (120 : Int)) r0 = (18, 0)) (zex 141 18 [] [(2, r0)] (zu (zclr M ((X.1.length : Int) + 1)) r0 4 ((X.1.length : Int) + 1)) (X.1 ++ [(0, Int.toNat (120 : Int))], X.2.1 - 1, X.2.2 - Int.toNat (120 : Int)))) :=
  (zblk 141 zc141 rfl [6, 10, 14, 18, 21, 25, 29, 33, 36, 40, 43, 46, 50, 54, 58, 62, 66, 70, 74, 78, 82, 86, 90, 94, 98, 102, 106, 110, 114, 118, 122, 126, 130, 134, 138, 142, 146, 150, 154, 158, 162, 166, 170, 174, 178, 182, 186, 191] 193 14 _ _ _ _).trans rfl
-- yX12_init
theorem q141_18 (r0 : Int) (M : zM) (X : zX) : zex 141 18 [] [(2, r0)] M X = zg (zkd X r0 = (18, 0)) (zex 141 21 [] [(2, r0)] (zu M r0 5 (2 : Int)) X) :=
  (zblk 141 zc141 rfl [6, 10, 14, 18, 21, 25, 29, 33, 36, 40, 43, 46, 50, 54, 58, 62, 66, 70, 74, 78, 82, 86, 90, 94, 98, 102, 106, 110, 114, 118, 122, 126, 130, 134, 138, 142, 146, 150, 154, 158, 162, 166, 170, 174, 178, 182, 186, 191] 193 18 _ _ _ _).trans rfl
-- yX12_init
theorem q141_21 (r0 : Int) (M : zM) (X : zX) : zex 141 21 [] [(2, r0)] M X = zg (0 ≤ (12 : Int) ∧ (12 : Int) ≤ 65536 ∧ 1 ≤ X.2.1 ∧ Int.toNat (12 : Int) ≤ X.2.2) (zg (zkd (X.1 ++ [(0, Int.toNat (12 : Int))], X.2.1 - 1, X.2.2 - Int.toNat (12 : Int)) r0 = (18, 0)) (zex 141 25 [] [(2, r0)] (zu (zclr M ((X.1.length : Int) + 1)) r0 7 ((X.1.length : Int) + 1)) (X.1 ++ [(0, Int.toNat (12 : Int))], X.2.1 - 1, X.2.2 - Int.toNat (12 : Int)))) :=
  (zblk 141 zc141 rfl [6, 10, 14, 18, 21, 25, 29, 33, 36, 40, 43, 46, 50, 54, 58, 62, 66, 70, 74, 78, 82, 86, 90, 94, 98, 102, 106, 110, 114, 118, 122, 126, 130, 134, 138, 142, 146, 150, 154, 158, 162, 166, 170, 174, 178, 182, 186, 191] 193 21 _ _ _ _).trans rfl
-- yX12_init
theorem q141_25 (r0 : Int) (M : zM) (X : zX) : zex 141 25 [] [(2, r0)] M X = zg (0 ≤ (12 : Int) ∧ (12 : Int) ≤ 65536 ∧ 1 ≤ X.2.1 ∧ Int.toNat (12 : Int) ≤ X.2.2) (zg (zkd (X.1 ++ [(0, Int.toNat (12 : Int))], X.2.1 - 1, X.2.2 - Int.toNat (12 : Int)) r0 = (18, 0)) (zex 141 29 [] [(2, r0)] (zu (zclr M ((X.1.length : Int) + 1)) r0 8 ((X.1.length : Int) + 1)) (X.1 ++ [(0, Int.toNat (12 : Int))], X.2.1 - 1, X.2.2 - Int.toNat (12 : Int)))) :=
  (zblk 141 zc141 rfl [6, 10, 14, 18, 21, 25, 29, 33, 36, 40, 43, 46, 50, 54, 58, 62, 66, 70, 74, 78, 82, 86, 90, 94, 98, 102, 106, 110, 114, 118, 122, 126, 130, 134, 138, 142, 146, 150, 154, 158, 162, 166, 170, 174, 178, 182, 186, 191] 193 25 _ _ _ _).trans rfl
-- yX12_init
theorem q141_29 (r0 : Int) (M : zM) (X : zX) : zex 141 29 [] [(2, r0)] M X = zg (0 ≤ (1024 : Int) ∧ (1024 : Int) ≤ 65536 ∧ 1 ≤ X.2.1 ∧ Int.toNat (1024 : Int) ≤ X.2.2) (zg (zkd (X.1 ++ [(2, Int.toNat (1024 : Int))], X.2.1 - 1, X.2.2 - Int.toNat (1024 : Int)) r0 = (18, 0)) (zex 141 33 [] [(2, r0)] (zu (zclr M ((X.1.length : Int) + 1)) r0 9 ((X.1.length : Int) + 1)) (X.1 ++ [(2, Int.toNat (1024 : Int))], X.2.1 - 1, X.2.2 - Int.toNat (1024 : Int)))) :=
  (zblk 141 zc141 rfl [6, 10, 14, 18, 21, 25, 29, 33, 36, 40, 43, 46, 50, 54, 58, 62, 66, 70, 74, 78, 82, 86, 90, 94, 98, 102, 106, 110, 114, 118, 122, 126, 130, 134, 138, 142, 146, 150, 154, 158, 162, 166, 170, 174, 178, 182, 186, 191] 193 29 _ _ _ _).trans rfl
-- yX12_init
theorem q141_33 (r0 : Int) (M : zM) (X : zX) : zex 141 33 [] [(2, r0)] M X = zg (zkd X r0 = (18, 0)) (zex 141 36 [] [(2, r0)] (zu M r0 13 (1 : Int)) X) :=
  (zblk 141 zc141 rfl [6, 10, 14, 18, 21, 25, 29, 33, 36, 40, 43, 46, 50, 54, 58, 62, 66, 70, 74, 78, 82, 86, 90, 94, 98, 102, 106, 110, 114, 118, 122, 126, 130, 134, 138, 142, 146, 150, 154, 158, 162, 166, 170, 174, 178, 182, 186, 191] 193 33 _ _ _ _).trans rfl
-- yX12_init
theorem q141_36 (r0 : Int) (M : zM) (X : zX) : zex 141 36 [] [(2, r0)] M X = zg (0 ≤ (30 : Int) ∧ (30 : Int) ≤ 65536 ∧ 1 ≤ X.2.1 ∧ Int.toNat (30 : Int) ≤ X.2.2) (zg (zkd (X.1 ++ [(0, Int.toNat (30 : Int))], X.2.1 - 1, X.2.2 - Int.toNat (30 : Int)) r0 = (18, 0)) (zex 141 40 [] [(2, r0)] (zu (zclr M ((X.1.length : Int) + 1)) r0 14 ((X.1.length : Int) + 1)) (X.1 ++ [(0, Int.toNat (30 : Int))], X.2.1 - 1, X.2.2 - Int.toNat (30 : Int)))) :=
  (zblk 141 zc141 rfl [6, 10, 14, 18, 21, 25, 29, 33, 36, 40, 43, 46, 50, 54, 58, 62, 66, 70, 74, 78, 82, 86, 90, 94, 98, 102, 106, 110, 114, 118, 122, 126, 130, 134, 138, 142, 146, 150, 154, 158, 162, 166, 170, 174, 178, 182, 186, 191] 193 36 _ _ _ _).trans rfl
-- yX12_init
theorem q141_40 (r0 : Int) (M : zM) (X : zX) : zex 141 40 [] [(2, r0)] M X = zg (zkd X r0 = (18, 0)) (zex 141 43 [] [(2, r0)] (zu M r0 15 (9 : Int)) X) :=
  (zblk 141 zc141 rfl [6, 10, 14, 18, 21, 25, 29, 33, 36, 40, 43, 46, 50, 54, 58, 62, 66, 70, 74, 78, 82, 86, 90, 94, 98, 102, 106, 110, 114, 118, 122, 126, 130, 134, 138, 142, 146, 150, 154, 158, 162, 166, 170, 174, 178, 182, 186, 191] 193 40 _ _ _ _).trans rfl
-- yX12_init
theorem q141_43 (r0 : Int) (M : zM) (X : zX) : zex 141 43 [] [(2, r0)] M X = zg (zkd X r0 = (18, 0)) (zex 141 46 [] [(2, r0)] (zu M r0 16 (2000 : Int)) X) :=
  (zblk 141 zc141 rfl [6, 10, 14, 18, 21, 25, 29, 33, 36, 40, 43, 46, 50, 54, 58, 62, 66, 70, 74, 78, 82, 86, 90, 94, 98, 102, 106, 110, 114, 118, 122, 126, 130, 134, 138, 142, 146, 150, 154, 158, 162, 166, 170, 174, 178, 182, 186, 191] 193 43 _ _ _ _).trans rfl
-- yX12_init
theorem q141_46 (r0 : Int) (M : zM) (X : zX) : zex 141 46 [] [(2, r0)] M X = zg (0 ≤ (20 : Int) ∧ (20 : Int) ≤ 65536 ∧ 1 ≤ X.2.1 ∧ Int.toNat (20 : Int) ≤ X.2.2) (zg (zkd (X.1 ++ [(0, Int.toNat (20 : Int))], X.2.1 - 1, X.2.2 - Int.toNat (20 : Int)) r0 = (18, 0)) (zex 141 50 [] [(2, r0)] (zu (zclr M ((X.1.length : Int) + 1)) r0 18 ((X.1.length : Int) + 1)) (X.1 ++ [(0, Int.toNat (20 : Int))], X.2.1 - 1, X.2.2 - Int.toNat (20 : Int)))) :=
  (zblk 141 zc141 rfl [6, 10, 14, 18, 21, 25, 29, 33, 36, 40, 43, 46, 50, 54, 58, 62, 66, 70, 74, 78, 82, 86, 90, 94, 98, 102, 106, 110, 114, 118, 122, 126, 130, 134, 138, 142, 146, 150, 154, 158, 162, 166, 170, 174, 178, 182, 186, 191] 193 46 _ _ _ _).trans rfl
-- yX12_init
theorem q141_50 (r0 : Int) (M : zM) (X : zX) : zex 141 50 [] [(2, r0)] M X = zg (0 ≤ (20 : Int) ∧ (20 : Int) ≤ 65536 ∧ 1 ≤ X.2.1 ∧ Int.toNat (20 : Int) ≤ X.2.2) (zg (zkd (X.1 ++ [(0, Int.toNat (20 : Int))], X.2.1 - 1, X.2.2 - Int.toNat (20 : Int)) r0 = (18, 0)) (zex 141 54 [] [(2, r0)] (zu (zclr M ((X.1.length : Int) + 1)) r0 19 ((X.1.length : Int) + 1)) (X.1 ++ [(0, Int.toNat (20 : Int))], X.2.1 - 1, X.2.2 - Int.toNat (20 : Int)))) :=
  (zblk 141 zc141 rfl [6, 10, 14, 18, 21, 25, 29, 33, 36, 40, 43, 46, 50, 54, 58, 62, 66, 70, 74, 78, 82, 86, 90, 94, 98, 102, 106, 110, 114, 118, 122, 126, 130, 134, 138, 142, 146, 150, 154, 158, 162, 166, 170, 174, 178, 182, 186, 191] 193 50 _ _ _ _).trans rfl
-- yX12_init
theorem q141_54 (r0 : Int) (M : zM) (X : zX) : zex 141 54 [] [(2, r0)] M X = zg (0 ≤ (20 : Int) ∧ (20 : Int) ≤ 65536 ∧ 1 ≤ X.2.1 ∧ Int.toNat (20 : Int) ≤ X.2.2) (zg (zkd (X.1 ++ [(0, Int.toNat (20 : Int))], X.2.1 - 1, X.2.2 - Int.toNat (20 : Int)) r0 = (18, 0)) (zex 141 58 [] [(2, r0)] (zu (zclr M ((X.1.length : Int) + 1)) r0 20 ((X.1.length : Int) + 1)) (X.1 ++ [(0, Int.toNat (20 : Int))], X.2.1 - 1, X.2.2 - Int.toNat (20 : Int)))) :=
  (zblk 141 zc141 rfl [6, 10, 14, 18, 21, 25, 29, 33, 36, 40, 43, 46, 50, 54, 58, 62, 66, 70, 74, 78, 82, 86, 90, 94, 98, 102, 106, 110, 114, 118, 122, 126, 130, 134, 138, 142, 146, 150, 154, 158, 162, 166, 170, 174, 178, 182, 186, 191] 193 54 _ _ _ _).trans rfl
-- yX12_init
theorem q141_58 (r0 : Int) (M : zM) (X : zX) : zex 141 58 [] [(2, r0)] M X = zg (0 ≤ (12 : Int) ∧ (12 : Int) ≤ 65536 ∧ 1 ≤ X.2.1 ∧ Int.toNat (12 : Int) ≤ X.2.2) (zg (zkd (X.1 ++ [(0, Int.toNat (12 : Int))], X.2.1 - 1, X.2.2 - Int.toNat (12 : Int)) r0 = (18, 0)) (zex 141 62 [] [(2, r0)] (zu (zclr M ((X.1.length : Int) + 1)) r0 22 ((X.1.length : Int) + 1)) (X.1 ++ [(0, Int.toNat (12 : Int))], X.2.1 - 1, X.2.2 - Int.toNat (12 : Int)))) :=
  (zblk 141 zc141 rfl [6, 10, 14, 18, 21, 25, 29, 33, 36, 40, 43, 46, 50, 54, 58, 62, 66, 70, 74, 78, 82, 86, 90, 94, 98, 102, 106, 110, 114, 118, 122, 126, 130, 134, 138, 142, 146, 150, 154, 158, 162, 166, 170, 174, 178, 182, 186, 191] 193 58 _ _ _ _).trans rfl
-- yX12_init
theorem q141_62 (r0 : Int) (M : zM) (X : zX) : zex 141 62 [] [(2, r0)] M X = zg (0 ≤ (12 : Int) ∧ (12 : Int) ≤ 65536 ∧ 1 ≤ X.2.1 ∧ Int.toNat (12 : Int) ≤ X.2.2) (zg (zkd (X.1 ++ [(0, Int.toNat (12 : Int))], X.2.1 - 1, X.2.2 - Int.toNat (12 : Int)) r0 = (18, 0)) (zex 141 66 [] [(2, r0)] (zu (zclr M ((X.1.length : Int) + 1)) r0 23 ((X.1.length : Int) + 1)) (X.1 ++ [(0, Int.toNat (12 : Int))], X.2.1 - 1, X.2.2 - Int.toNat (12 : Int)))) :=
  (zblk 141 zc141 rfl [6, 10, 14, 18, 21, 25, 29, 33, 36, 40, 43, 46, 50, 54, 58, 62, 66, 70, 74, 78, 82, 86, 90, 94, 98, 102, 106, 110, 114, 118, 122, 126, 130, 134, 138, 142, 146, 150, 154, 158, 162, 166, 170, 174, 178, 182, 186, 191] 193 62 _ _ _ _).trans rfl
-- yX12_init
theorem q141_66 (r0 : Int) (M : zM) (X : zX) : zex 141 66 [] [(2, r0)] M X = zg (0 ≤ (12 : Int) ∧ (12 : Int) ≤ 65536 ∧ 1 ≤ X.2.1 ∧ Int.toNat (12 : Int) ≤ X.2.2) (zg (zkd (X.1 ++ [(0, Int.toNat (12 : Int))], X.2.1 - 1, X.2.2 - Int.toNat (12 : Int)) r0 = (18, 0)) (zex 141 70 [] [(2, r0)] (zu (zclr M ((X.1.length : Int) + 1)) r0 24 ((X.1.length : Int) + 1)) (X.1 ++ [(0, Int.toNat (12 : Int))], X.2.1 - 1, X.2.2 - Int.toNat (12 : Int)))) :=
  (zblk 141 zc141 rfl [6, 10, 14, 18, 21, 25, 29, 33, 36, 40, 43, 46, 50, 54, 58, 62, 66, 70, 74, 78, 82, 86, 90, 94, 98, 102, 106, 110, 114, 118, 122, 126, 130, 134, 138, 142, 146, 150, 154, 158, 162, 166, 170, 174, 178, 182, 186, 191] 193 66 _ _ _ _).trans rfl
-- yX12_init
theorem q141_70 (r0 : Int) (M : zM) (X : zX) : zex 141 70 [] [(2, r0)] M X = zg (0 ≤ (9 : Int) ∧ (9 : Int) ≤ 65536 ∧ 1 ≤ X.2.1 ∧ Int.toNat (9 : Int) ≤ X.2.2) (zg (zkd (X.1 ++ [(0, Int.toNat (9 : Int))], X.2.1 - 1, X.2.2 - Int.toNat (9 : Int)) r0 = (18, 0)) (zex 141 74 [] [(2, r0)] (zu (zclr M ((X.1.length : Int) + 1)) r0 27 ((X.1.length : Int) + 1)) (X.1 ++ [(0, Int.toNat (9 : Int))], X.2.1 - 1, X.2.2 - Int.toNat (9 : Int)))) :=
  (zblk 141 zc141 rfl [6, 10, 14, 18, 21, 25, 29, 33, 36, 40, 43, 46, 50, 54, 58, 62, 66, 70, 74, 78, 82, 86, 90, 94, 98, 102, 106, 110, 114, 118, 122, 126, 130, 134, 138, 142, 146, 150, 154, 158, 162, 166, 170, 174, 178, 182, 186, 191] 193 70 _ _ _ _).trans rfl
-- yX12_init
theorem q141_74 (r0 : Int) (M : zM) (X : zX) : zex 141 74 [] [(2, r0)] M X = zg (0 ≤ (60 : Int) ∧ (60 : Int) ≤ 65536 ∧ 1 ≤ X.2.1 ∧ Int.toNat (60 : Int) ≤ X.2.2) (zg (zkd (X.1 ++ [(0, Int.toNat (60 : Int))], X.2.1 - 1, X.2.2 - Int.toNat (60 : Int)) r0 = (18, 0)) (zex 141 78 [] [(2, r0)] (zu (zclr M ((X.1.length : Int) + 1)) r0 29 ((X.1.length : Int) + 1)) (X.1 ++ [(0, Int.toNat (60 : Int))], X.2.1 - 1, X.2.2 - Int.toNat (60 : Int)))) :=
  (zblk 141 zc141 rfl [6, 10, 14, 18, 21, 25, 29, 33, 36, 40, 43, 46, 50, 54, 58, 62, 66, 70, 74, 78, 82, 86, 90, 94, 98, 102, 106, 110, 114, 118, 122, 126, 130, 134, 138, 142, 146, 150, 154, 158, 162, 166, 170, 174, 178, 182, 186, 191] 193 74 _ _ _ _).trans rfl
-- yX12_init
theorem q141_78 (r0 : Int) (M : zM) (X : zX) : zex 141 78 [] [(2, r0)] M X = zg (0 ≤ (60 : Int) ∧ (60 : Int) ≤ 65536 ∧ 1 ≤ X.2.1 ∧ Int.toNat (60 : Int) ≤ X.2.2) (zg (zkd (X.1 ++ [(0, Int.toNat (60 : Int))], X.2.1 - 1, X.2.2 - Int.toNat (60 : Int)) r0 = (18, 0)) (zex 141 82 [] [(2, r0)] (zu (zclr M ((X.1.length : Int) + 1)) r0 30 ((X.1.length : Int) + 1)) (X.1 ++ [(0, Int.toNat (60 : Int))], X.2.1 - 1, X.2.2 - Int.toNat (60 : Int)))) :=
  (zblk 141 zc141 rfl [6, 10, 14, 18, 21, 25, 29, 33, 36, 40, 43, 46, 50, 54, 58, 62, 66, 70, 74, 78, 82, 86, 90, 94, 98, 102, 106, 110, 114, 118, 122, 126, 130, 134, 138, 142, 146, 150, 154, 158, 162, 166, 170, 174, 178, 182, 186, 191] 193 78 _ _ _ _).trans rfl
-- yX12_init
theorem q141_82 (r0 : Int) (M : zM) (X : zX) : zex 141 82 [] [(2, r0)] M X = zg (0 ≤ (60 : Int) ∧ (60 : Int) ≤ 65536 ∧ 1 ≤ X.2.1 ∧ Int.toNat (60 : Int) ≤ X.2.2) (zg (zkd (X.1 ++ [(0, Int.toNat (60 : Int))], X.2.1 - 1, X.2.2 - Int.toNat (60 : Int)) r0 = (18, 0)) (zex 141 86 [] [(2, r0)] (zu (zclr M ((X.1.length : Int) + 1)) r0 31 ((X.1.length : Int) + 1)) (X.1 ++ [(0, Int.toNat (60 : Int))], X.2.1 - 1, X.2.2 - Int.toNat (60 : Int)))) :=
  (zblk 141 zc141 rfl [6, 10, 14, 18, 21, 25, 29, 33, 36, 40, 43, 46, 50, 54, 58, 62, 66, 70, 74, 78, 82, 86, 90, 94, 98, 102, 106, 110, 114, 118, 122, 126, 130, 134, 138, 142, 146, 150, 154, 158, 162, 166, 170, 174, 178, 182, 186, 191] 193 82 _ _ _ _).trans rfl
-- yX12_init
theorem q141_86 (r0 : Int) (M : zM) (X : zX) : zex 141 86 [] [(2, r0)] M X = zg (0 ≤ (60 : Int) ∧ (60 : Int) ≤ 65536 ∧ 1 ≤ X.2.1 ∧ Int.toNat (60 : Int) ≤ X.2.2) (zg (zkd (X.1 ++ [(0, Int.toNat (60 : Int))], X.2.1 - 1, X.2.2 - Int.toNat (60 : Int)) r0 = (18, 0)) (zex 141 90 [] [(2, r0)] (zu (zclr M ((X.1.length : Int) + 1)) r0 32 ((X.1.length : Int) + 1)) (X.1 ++ [(0, Int.toNat (60 : Int))], X.2.1 - 1, X.2.2 - Int.toNat (60 : Int)))) :=
  (zblk 141 zc141 rfl [6, 10, 14, 18, 21, 25, 29, 33, 36, 40, 43, 46, 50, 54, 58, 62, 66, 70, 74, 78, 82, 86, 90, 94, 98, 102, 106, 110, 114, 118, 122, 126, 130, 134, 138, 142, 146, 150, 154, 158, 162, 166, 170, 174, 178, 182, 186, 191] 193 86 _ _ _ _).trans rfl
-- yX12_init
theorem q141_90 (r0 : Int) (M : zM) (X : zX) : zex 141 90 [] [(2, r0)] M X = zg (0 ≤ (20 : Int) ∧ (20 : Int) ≤ 65536 ∧ 1 ≤ X.2.1 ∧ Int.toNat (20 : Int) ≤ X.2.2) (zg (zkd (X.1 ++ [(0, Int.toNat (20 : Int))], X.2.1 - 1, X.2.2 - Int.toNat (20 : Int)) r0 = (18, 0)) (zex 141 94 [] [(2, r0)] (zu (zclr M ((X.1.length : Int) + 1)) r0 34 ((X.1.length : Int) + 1)) (X.1 ++ [(0, Int.toNat (20 : Int))], X.2.1 - 1, X.2.2 - Int.toNat (20 : Int)))) :=
  (zblk 141 zc141 rfl [6, 10, 14, 18, 21, 25, 29, 33, 36, 40, 43, 46, 50, 54, 58, 62, 66, 70, 74, 78, 82, 86, 90, 94, 98, 102, 106, 110, 114, 118, 122, 126, 130, 134, 138, 142, 146, 150, 154, 158, 162, 166, 170, 174, 178, 182, 186, 191] 193 90 _ _ _ _).trans rfl
-- yX12_init
theorem q141_94 (r0 : Int) (M : zM) (X : zX) : zex 141 94 [] [(2, r0)] M X = zg (0 ≤ (20 : Int) ∧ (20 : Int) ≤ 65536 ∧ 1 ≤ X.2.1 ∧ Int.toNat (20 : Int) ≤ X.2.2) (zg (zkd (X.1 ++ [(0, Int.toNat (20 : Int))], X.2.1 - 1, X.2.2 - Int.toNat (20 : Int)) r0 = (18, 0)) (zex 141 98 [] [(2, r0)] (zu (zclr M ((X.1.length : Int) + 1)) r0 35 ((X.1.length : Int) + 1)) (X.1 ++ [(0, Int.toNat (20 : Int))], X.2.1 - 1, X.2.2 - Int.toNat (20 : Int)))) :=
  (zblk 141 zc141 rfl [6, 10, 14, 18, 21, 25, 29, 33, 36, 40, 43, 46, 50, 54, 58, 62, 66, 70, 74, 78, 82, 86, 90, 94, 98, 102, 106, 110, 114, 118, 122, 126, 130, 134, 138, 142, 146, 150, 154, 158, 162, 166, 170, 174, 178, 182, 186, 191] 193 94 _ _ _ _).trans rfl
-- yX12_init
theorem q141_98 (r0 : Int) (M : zM) (X : zX) : zex 141 98 [] [(2, r0)] M X = zg (0 ≤ (20 : Int) ∧ (20 : Int) ≤ 65536 ∧ 1 ≤ X.2.1 ∧ Int.toNat (20 : Int) ≤ X.2.2) (zg (zkd (X.1 ++ [(0, Int.toNat (20 : Int))], X.2.1 - 1, X.2.2 - Int.toNat (20 : Int)) r0 = (18, 0)) (zex 141 102 [] [(2, r0)] (zu (zclr M ((X.1.length : Int) + 1)) r0 36 ((X.1.length : Int) + 1)) (X.1 ++ [(0, Int.toNat (20 : Int))], X.2.1 - 1, X.2.2 - Int.toNat (20 : Int)))) :=
  (zblk 141 zc141 rfl [6, 10, 14, 18, 21, 25, 29, 33, 36, 40, 43, 46, 50, 54, 58, 62, 66, 70, 74, 78, 82, 86, 90, 94, 98, 102, 106, 110, 114, 118, 122, 126, 130, 134, 138, 142, 146, 150, 154, 158, 162, 166, 170, 174, 178, 182, 186, 191] 193 98 _ _ _ _).trans rfl
-- yX12_init
theorem q141_102 (r0 : Int) (M : zM) (X : zX) : zex 141 102 [] [(2, r0)] M X = zg (0 ≤ (6 : Int) ∧ (6 : Int) ≤ 65536 ∧ 1 ≤ X.2.1 ∧ Int.toNat (6 : Int) ≤ X.2.2) (zg (zkd (X.1 ++ [(0, Int.toNat (6 : Int))], X.2.1 - 1, X.2.2 - Int.toNat (6 : Int)) r0 = (18, 0)) (zex 141 106 [] [(2, r0)] (zu (zclr M ((X.1.length : Int) + 1)) r0 37 ((X.1.length : Int) + 1)) (X.1 ++ [(0, Int.toNat (6 : Int))], X.2.1 - 1, X.2.2 - Int.toNat (6 : Int)))) :=
  (zblk 141 zc141 rfl [6, 10, 14, 18, 21, 25, 29, 33, 36, 40, 43, 46, 50, 54, 58, 62, 66, 70, 74, 78, 82, 86, 90, 94, 98, 102, 106, 110, 114, 118, 122, 126, 130, 134, 138, 142, 146, 150, 154, 158, 162, 166, 170, 174, 178, 182, 186, 191] 193 102 _ _ _ _).trans rfl
-- yX12_init
theorem q141_106 (r0 : Int) (M : zM) (X : zX) : zex 141 106 [] [(2, r0)] M X = zg (0 ≤ (6 : Int) ∧ (6 : Int) ≤ 65536 ∧ 1 ≤ X.2.1 ∧ Int.toNat (6 : Int) ≤ X.2.2) (zg (zkd (X.1 ++ [(0, Int.toNat (6 : Int))], X.2.1 - 1, X.2.2 - Int.toNat (6 : Int)) r0 = (18, 0)) (zex 141 110 [] [(2, r0)] (zu (zclr M ((X.1.length : Int) + 1)) r0 38 ((X.1.length : Int) + 1)) (X.1 ++ [(0, Int.toNat (6 : Int))], X.2.1 - 1, X.2.2 - Int.toNat (6 : Int)))) :=
  (zblk 141 zc141 rfl [6, 10, 14, 18, 21, 25, 29, 33, 36, 40, 43, 46, 50, 54, 58, 62, 66, 70, 74, 78, 82, 86, 90, 94, 98, 102, 106, 110, 114, 118, 122, 126, 130, 134, 138, 142, 146, 150, 154, 158, 162, 166, 170, 174, 178, 182, 186, 191] 193 106 _ _ _ _).trans rfl
-- yX12_init
theorem q141_110 (r0 : Int) (M : zM) (X : zX) : zex 141 110 [] [(2, r0)] M X = zg (0 ≤ (384 : Int) ∧ (384 : Int) ≤ 65536 ∧ 1 ≤ X.2.1 ∧ Int.toNat (384 : Int) ≤ X.2.2) (zg (zkd (X.1 ++ [(1, Int.toNat (384 : Int))], X.2.1 - 1, X.2.2 - Int.toNat (384 : Int)) r0 = (18, 0)) (zex 141 114 [] [(2, r0)] (zu (zclr M ((X.1.length : Int) + 1)) r0 39 ((X.1.length : Int) + 1)) (X.1 ++ [(1, Int.toNat (384 : Int))], X.2.1 - 1, X.2.2 - Int.toNat (384 : Int)))) :=
  (zblk 141 zc141 rfl [6, 10, 14, 18, 21, 25, 29, 33, 36, 40, 43, 46, 50, 54, 58, 62, 66, 70, 74, 78, 82, 86, 90, 94, 98, 102, 106, 110, 114, 118, 122, 126, 130, 134, 138, 142, 146, 150, 154, 158, 162, 166, 170, 174, 178, 182, 186, 191] 193 110 _ _ _ _).trans rfl
-- yX12_init
theorem q141_114 (r0 : Int) (M : zM) (X : zX) : zex 141 114 [] [(2, r0)] M X = zg (0 ≤ (18 : Int) ∧ (18 : Int) ≤ 65536 ∧ 1 ≤ X.2.1 ∧ Int.toNat (18 : Int) ≤ X.2.2) (zg (zkd (X.1 ++ [(0, Int.toNat (18 : Int))], X.2.1 - 1, X.2.2 - Int.toNat (18 : Int)) r0 = (18, 0)) (zex 141 118 [] [(2, r0)] (zu (zclr M ((X.1.length : Int) + 1)) r0 40 ((X.1.length : Int) + 1)) (X.1 ++ [(0, Int.toNat (18 : Int))], X.2.1 - 1, X.2.2 - Int.toNat (18 : Int)))) :=
  (zblk 141 zc141 rfl [6, 10, 14, 18, 21, 25, 29, 33, 36, 40, 43, 46, 50, 54, 58, 62, 66, 70, 74, 78, 82, 86, 90, 94, 98, 102, 106, 110, 114, 118, 122, 126, 130, 134, 138, 142, 146, 150, 154, 158, 162, 166, 170, 174, 178, 182, 186, 191] 193 114 _ _ _ _).trans rfl
-- yX12_init
theorem q141_118 (r0 : Int) (M : zM) (X : zX) : zex 141 118 [] [(2, r0)] M X = zg (0 ≤ (720 : Int) ∧ (720 : Int) ≤ 65536 ∧ 1 ≤ X.2.1 ∧ Int.toNat (720 : Int) ≤ X.2.2) (zg (zkd (X.1 ++ [(0, Int.toNat (720 : Int))], X.2.1 - 1, X.2.2 - Int.toNat (720 : Int)) r0 = (18, 0)) (zex 141 122 [] [(2, r0)] (zu (zclr M ((X.1.length : Int) + 1)) r0 41 ((X.1.length : Int) + 1)) (X.1 ++ [(0, Int.toNat (720 : Int))], X.2.1 - 1, X.2.2 - Int.toNat (720 : Int)))) :=
  (zblk 141 zc141 rfl [6, 10, 14, 18, 21, 25, 29, 33, 36, 40, 43, 46, 50, 54, 58, 62, 66, 70, 74, 78, 82, 86, 90, 94, 98, 102, 106, 110, 114, 118, 122, 126, 130, 134, 138, 142, 146, 150, 154, 158, 162, 166, 170, 174, 178, 182, 186, 191] 193 118 _ _ _ _).trans rfl
-- yX12_init
theorem q141_122 (r0 : Int) (M : zM) (X : zX) : zex 141 122 [] [(2, r0)] M X = zg (0 ≤ (720 : Int) ∧ (720 : Int) ≤ 65536 ∧ 1 ≤ X.2.1 ∧ Int.toNat (720 : Int) ≤ X.2.2) (zg (zkd (X.1 ++ [(0, Int.toNat (720 : Int))], X.2.1 - 1, X.2.2 - Int.toNat (720 : Int)) r0 = (18, 0)) (zex 141 126 [] [(2, r0)] (zu (zclr M ((X.1.length : Int) + 1)) r0 42 ((X.1.length : Int) + 1)) (X.1 ++ [(0, Int.toNat (720 : Int))], X.2.1 - 1, X.2.2 - Int.toNat (720 : Int)))) :=
  (zblk 141 zc141 rfl [6, 10, 14, 18, 21, 25, 29, 33, 36, 40, 43, 46, 50, 54, 58, 62, 66, 70, 74, 78, 82, 86, 90, 94, 98, 102, 106, 110, 114, 118, 122, 126, 130, 134, 138, 142, 146, 150, 154, 158, 162, 166, 170, 174, 178, 182, 186, 191] 193 122 _ _ _ _).trans rfl
-- yX12_init
theorem q141_126 (r0 : Int) (M : zM) (X : zX) : zex 141 126 [] [(2, r0)] M X = zg (0 ≤ (720 : Int) ∧ (720 : Int) ≤ 65536 ∧ 1 ≤ X.2.1 ∧ Int.toNat (720 : Int) ≤ X.2.2) (zg (zkd (X.1 ++ [(0, Int.toNat (720 : Int))], X.2.1 - 1, X.2.2 - Int.toNat (720 : Int)) r0 = (18, 0)) (zex 141 130 [] [(2, r0)] (zu (zclr M ((X.1.length : Int) + 1)) r0 43 ((X.1.length : Int) + 1)) (X.1 ++ [(0, Int.toNat (720 : Int))], X.2.1 - 1, X.2.2 - Int.toNat (720 : Int)))) :=
  (zblk 141 zc141 rfl [6, 10, 14, 18, 21, 25, 29, 33, 36, 40, 43, 46, 50, 54, 58, 62, 66, 70, 74, 78, 82, 86, 90, 94, 98, 102, 106, 110, 114, 118, 122, 126, 130, 134, 138, 142, 146, 150, 154, 158, 162, 166, 170, 174, 178, 182, 186, 191] 193 126 _ _ _ _).trans rfl
-- yX12_init
theorem q141_130 (r0 : Int) (M : zM) (X : zX) : zex 141 130 [] [(2, r0)] M X = zg (0 ≤ (6 : Int) ∧ (6 : Int) ≤ 65536 ∧ 1 ≤ X.2.1 ∧ Int.toNat (6 : Int) ≤ X.2.2) (zg (zkd (X.1 ++ [(0, Int.toNat (6 : Int))], X.2.1 - 1, X.2.2 - Int.toNat (6 : Int)) r0 = (18, 0)) (zex 141 134 [] [(2, r0)] (zu (zclr M ((X.1.length : Int) + 1)) r0 44 ((X.1.length : Int) + 1)) (X.1 ++ [(0, Int.toNat (6 : Int))], X.2.1 - 1, X.2.2 - Int.toNat (6 : Int)))) :=
  (zblk 141 zc141 rfl [6, 10, 14, 18, 21, 25, 29, 33, 36, 40, 43, 46, 50, 54, 58, 62, 66, 70, 74, 78, 82, 86, 90, 94, 98, 102, 106, 110, 114, 118, 122, 126, 130, 134, 138, 142, 146, 150, 154, 158, 162, 166, 170, 174, 178, 182, 186, 191] 193 130 _ _ _ _).trans rfl
-- yX12_init
theorem q141_134 (r0 : Int) (M : zM) (X : zX) : zex 141 134 [] [(2, r0)] M X = zg (0 ≤ (6 : Int) ∧ (6 : Int) ≤ 65536 ∧ 1 ≤ X.2.1 ∧ Int.toNat (6 : Int) ≤ X.2.2) (zg (zkd (X.1 ++ [(0, Int.toNat (6 : Int))], X.2.1 - 1, X.2.2 - Int.toNat (6 : Int)) r0 = (18, 0)) (zex 141 138 [] [(2, r0)] (zu (zclr M ((X.1.length : Int) + 1)) r0 45 ((X.1.length : Int) + 1)) (X.1 ++ [(0, Int.toNat (6 : Int))], X.2.1 - 1, X.2.2 - Int.toNat (6 : Int)))) :=
  (zblk 141 zc141 rfl [6, 10, 14, 18, 21, 25, 29, 33, 36, 40, 43, 46, 50, 54, 58, 62, 66, 70, 74, 78, 82, 86, 90, 94, 98, 102, 106, 110, 114, 118, 122, 126, 130, 134, 138, 142, 146, 150, 154, 158, 162, 166, 170, 174, 178, 182, 186, 191] 193 134 _ _ _ _).trans rfl
-- yX12_init
theorem q141_138 (r0 : Int) (M : zM) (X : zX) : zex 141 138 [] [(2, r0)] M X = zg (0 ≤ (72 : Int) ∧ (72 : Int) ≤ 65536 ∧ 1 ≤ X.2.1 ∧ Int.toNat (72 : Int) ≤ X.2.2) (zg (zkd (X.1 ++ [(0, Int.toNat (72 : Int))], X.2.1 - 1, X.2.2 - Int.toNat (72 : Int)) r0 = (18, 0)) (zex 141 142 [] [(2, r0)] (zu (zclr M ((X.1.length : Int) + 1)) r0 46 ((X.1.length : Int) + 1)) (X.1 ++ [(0, Int.toNat (72 : Int))], X.2.1 - 1, X.2.2 - Int.toNat (72 : Int)))) :=
  (zblk 141 zc141 rfl [6, 10, 14, 18, 21, 25, 29, 33, 36, 40, 43, 46, 50, 54, 58, 62, 66, 70, 74, 78, 82, 86, 90, 94, 98, 102, 106, 110, 114, 118, 122, 126, 130, 134, 138, 142, 146, 150, 154, 158, 162, 166, 170, 174, 178, 182, 186, 191] 193 138 _ _ _ _).trans rfl
-- yX12_init
theorem q141_142 (r0 : Int) (M : zM) (X : zX) : zex 141 142 [] [(2, r0)] M X = zg (0 ≤ (72 : Int) ∧ (72 : Int) ≤ 65536 ∧ 1 ≤ X.2.1 ∧ Int.toNat (72 : Int) ≤ X.2.2) (zg (zkd (X.1 ++ [(0, Int.toNat (72 : Int))], X.2.1 - 1, X.2.2 - Int.toNat (72 : Int)) r0 = (18, 0)) (zex 141 146 [] [(2, r0)] (zu (zclr M ((X.1.length : Int) + 1)) r0 47 ((X.1.length : Int) + 1)) (X.1 ++ [(0, Int.toNat (72 : Int))], X.2.1 - 1, X.2.2 - Int.toNat (72 : Int)))) :=
  (zblk 141 zc141 rfl [6, 10, 14, 18, 21, 25, 29, 33, 36, 40, 43, 46, 50, 54, 58, 62, 66, 70, 74, 78, 82, 86, 90, 94, 98, 102, 106, 110, 114, 118, 122, 126, 130, 134, 138, 142, 146, 150, 154, 158, 162, 166, 170, 174, 178, 182, 186, 191] 193 142 _ _ _ _).trans rfl
-- yX12_init
theorem q141_146 (r0 : Int) (M : zM) (X : zX) : zex 141 146 [] [(2, r0)] M X = zg (0 ≤ (120 : Int) ∧ (120 : Int) ≤ 65536 ∧ 1 ≤ X.2.1 ∧ Int.toNat (120 : Int) ≤ X.2.2) (zg (zkd (X.1 ++ [(0, Int.toNat (120 : Int))], X.2.1 - 1, X.2.2 - Int.toNat (120 : Int)) r0 = (18, 0)) (zex 141 150 [] [(2, r0)] (zu (zclr M ((X.1.length : Int) + 1)) r0 48 ((X.1.length : Int) + 1)) (X.1 ++ [(0, Int.toNat (120 : Int))], X.2.1 - 1, X.2.2 - Int.toNat (120 : Int)))) :=
  (zblk 141 zc141 rfl [6, 10, 14, 18, 21, 25, 29, 33, 36, 40, 43, 46, 50, 54, 58, 62, 66, 70, 74, 78, 82, 86, 90, 94, 98, 102, 106, 110, 114, 118, 122, 126, 130, 134, 138, 142, 146, 150, 154, 158, 162, 166, 170, 174, 178, 182, 186, 191] 193 146 _ _ _ _).trans rfl
-- yX12_init
theorem q141_150 (r0 : Int) (M : zM) (X : zX) : zex 141 150 [] [(2, r0)] M X = zg (0 ≤ (3 : Int) ∧ (3 : Int) ≤ 65536 ∧ 1 ≤ X.2.1 ∧ Int.toNat (3 : Int) ≤ X.2.2) (zg (zkd (X.1 ++ [(0, Int.toNat (3 : Int))], X.2.1 - 1, X.2.2 - Int.toNat (3 : Int)) r0 = (18, 0)) (zex 141 154 [] [(2, r0)] (zu (zclr M ((X.1.length : Int) + 1)) r0 49 ((X.1.length : Int) + 1)) (X.1 ++ [(0, Int.toNat (3 : Int))], X.2.1 - 1, X.2.2 - Int.toNat (3 : Int)))) :=
  (zblk 141 zc141 rfl [6, 10, 14, 18, 21, 25, 29, 33, 36, 40, 43, 46, 50, 54, 58, 62, 66, 70, 74, 78, 82, 86, 90, 94, 98, 102, 106, 110, 114, 118, 122, 126, 130, 134, 138, 142, 146, 150, 154, 158, 162, 166, 170, 174, 178, 182, 186, 191] 193 150 _ _ _ _).trans rfl
-- yX12_init
theorem q141_154 (r0 : Int) (M : zM) (X : zX) : zex 141 154 [] [(2, r0)] M X = zg (0 ≤ (3 : Int) ∧ (3 : Int) ≤ 65536 ∧ 1 ≤ X.2.1 ∧ Int.toNat (3 : Int) ≤ X.2.2) (zg (zkd (X.1 ++ [(0, Int.toNat (3 : Int))], X.2.1 - 1, X.2.2 - Int.toNat (3 : Int)) r0 = (18, 0)) (zex 141 158 [] [(2, r0)] (zu (zclr M ((X.1.length : Int) + 1)) r0 50 ((X.1.length : Int) + 1)) (X.1 ++ [(0, Int.toNat (3 : Int))], X.2.1 - 1, X.2.2 - Int.toNat (3 : Int)))) :=
  (zblk 141 zc141 rfl [6, 10, 14, 18, 21, 25, 29, 33, 36, 40, 43, 46, 50, 54, 58, 62, 66, 70, 74, 78, 82, 86, 90, 94, 98, 102, 106, 110, 114, 118, 122, 126, 130, 134, 138, 142, 146, 150, 154, 158, 162, 166, 170, 174, 178, 182, 186, 191] 193 154 _ _ _ _).trans rfl
-- yX12_init
theorem q141_158 (r0 : Int) (M : zM) (X : zX) : zex 141 158 [] [(2, r0)] M X = zg (0 ≤ (3 : Int) ∧ (3 : Int) ≤ 65536 ∧ 1 ≤ X.2.1 ∧ Int.toNat (3 : Int) ≤ X.2.2) (zg (zkd (X.1 ++ [(0, Int.toNat (3 : Int))], X.2.1 - 1, X.2.2 - Int.toNat (3 : Int)) r0 = (18, 0)) (zex 141 162 [] [(2, r0)] (zu (zclr M ((X.1.length : Int) + 1)) r0 51 ((X.1.length : Int) + 1)) (X.1 ++ [(0, Int.toNat (3 : Int))], X.2.1 - 1, X.2.2 - Int.toNat (3 : Int)))) :=
  (zblk 141 zc141 rfl [6, 10, 14, 18, 21, 25, 29, 33, 36, 40, 43, 46, 50, 54, 58, 62, 66, 70, 74, 78, 82, 86, 90, 94, 98, 102, 106, 110, 114, 118, 122, 126, 130, 134, 138, 142, 146, 150, 154, 158, 162, 166, 170, 174, 178, 182, 186, 191] 193 158 _ _ _ _).trans rfl
-- yX12_init
theorem q141_162 (r0 : Int) (M : zM) (X : zX) : zex 141 162 [] [(2, r0)] M X = zg (0 ≤ (4096 : Int) ∧ (4096 : Int) ≤ 65536 ∧ 1 ≤ X.2.1 ∧ Int.toNat (4096 : Int) ≤ X.2.2) (zg (zkd (X.1 ++ [(0, Int.toNat (4096 : Int))], X.2.1 - 1, X.2.2 - Int.toNat (4096 : Int)) r0 = (18, 0)) (zex 141 166 [] [(2, r0)] (zu (zclr M ((X.1.length : Int) + 1)) r0 59 ((X.1.length : Int) + 1)) (X.1 ++ [(0, Int.toNat (4096 : Int))], X.2.1 - 1, X.2.2 - Int.toNat (4096 : Int)))) :=
  (zblk 141 zc141 rfl [6, 10, 14, 18, 21, 25, 29, 33, 36, 40, 43, 46, 50, 54, 58, 62, 66, 70, 74, 78, 82, 86, 90, 94, 98, 102, 106, 110, 114, 118, 122, 126, 130, 134, 138, 142, 146, 150, 154, 158, 162, 166, 170, 174, 178, 182, 186, 191] 193 162 _ _ _ _).trans rfl
-- yX12_init
theorem q141_166 (r0 : Int) (M : zM) (X : zX) : zex 141 166 [] [(2, r0)] M X = zg (0 ≤ (3 : Int) ∧ (3 : Int) ≤ 65536 ∧ 1 ≤ X.2.1 ∧ Int.toNat (3 : Int) ≤ X.2.2) (zg (zkd (X.1 ++ [(0, Int.toNat (3 : Int))], X.2.1 - 1, X.2.2 - Int.toNat (3 : Int)) r0 = (18, 0)) (zex 141 170 [] [(2, r0)] (zu (zclr M ((X.1.length : Int) + 1)) r0 60 ((X.1.length : Int) + 1)) (X.1 ++ [(0, Int.toNat (3 : Int))], X.2.1 - 1, X.2.2 - Int.toNat (3 : Int)))) :=
  (zblk 141 zc141 rfl [6, 10, 14, 18, 21, 25, 29, 33, 36, 40, 43, 46, 50, 54, 58, 62, 66, 70, 74, 78, 82, 86, 90, 94, 98, 102, 106, 110, 114, 118, 122, 126, 130, 134, 138, 142, 146, 150, 154, 158, 162, 166, 170, 174, 178, 182, 186, 191] 193 166 _ _ _ _).trans rfl
-- yX12_init
theorem q141_170 (r0 : Int) (M : zM) (X : zX) : zex 141 170 [] [(2, r0)] M X = zg (0 ≤ (120 : Int) ∧ (120 : Int) ≤ 65536 ∧ 1 ≤ X.2.1 ∧ Int.toNat (120 : Int) ≤ X.2.2) (zg (zkd (X.1 ++ [(0, Int.toNat (120 : Int))], X.2.1 - 1, X.2.2 - Int.toNat (120 : Int)) r0 = (18, 0)) (zex 141 174 [] [(2, r0)] (zu (zclr M ((X.1.length : Int) + 1)) r0 61 ((X.1.length : Int) + 1)) (X.1 ++ [(0, Int.toNat (120 : Int))], X.2.1 - 1, X.2.2 - Int.toNat (120 : Int)))) :=
  (zblk 141 zc141 rfl [6, 10, 14, 18, 21, 25, 29, 33, 36, 40, 43, 46, 50, 54, 58, 62, 66, 70, 74, 78, 82, 86, 90, 94, 98, 102, 106, 110, 114, 118, 122, 126, 130, 134, 138, 142, 146, 150, 154, 158, 162, 166, 170, 174, 178, 182, 186, 191] 193 170 _ _ _ _).trans rfl
-- yX12_init
theorem q141_174 (r0 : Int) (M : zM) (X : zX) : zex 141 174 [] [(2, r0)] M X = zg (0 ≤ (120 : Int) ∧ (120 : Int) ≤ 65536 ∧ 1 ≤ X.2.1 ∧ Int.toNat (120 : Int) ≤ X.2.2) (zg (zkd (X.1 ++ [(0, Int.toNat (120 : Int))], X.2.1 - 1, X.2.2 - Int.toNat (120 : Int)) r0 = (18, 0)) (zex 141 178 [] [(2, r0)] (zu (zclr M ((X.1.length : Int) + 1)) r0 62 ((X.1.length : Int) + 1)) (X.1 ++ [(0, Int.toNat (120 : Int))], X.2.1 - 1, X.2.2 - Int.toNat (120 : Int)))) :=
  (zblk 141 zc141 rfl [6, 10, 14, 18, 21, 25, 29, 33, 36, 40, 43, 46, 50, 54, 58, 62, 66, 70, 74, 78, 82, 86, 90, 94, 98, 102, 106, 110, 114, 118, 122, 126, 130, 134, 138, 142, 146, 150, 154, 158, 162, 166, 170, 174, 178, 182, 186, 191] 193 174 _ _ _ _).trans rfl
-- yX12_init
theorem q141_178 (r0 : Int) (M : zM) (X : zX) : zex 141 178 [] [(2, r0)] M X = zg (0 ≤ (120 : Int) ∧ (120 : Int) ≤ 65536 ∧ 1 ≤ X.2.1 ∧ Int.toNat (120 : Int) ≤ X.2.2) (zg (zkd (X.1 ++ [(0, Int.toNat (120 : Int))], X.2.1 - 1, X.2.2 - Int.toNat (120 : Int)) r0 = (18, 0)) (zex 141 182 [] [(2, r0)] (zu (zclr M ((X.1.length : Int) + 1)) r0 65 ((X.1.length : Int) + 1)) (X.1 ++ [(0, Int.toNat (120 : Int))], X.2.1 - 1, X.2.2 - Int.toNat (120 : Int)))) :=
  (zblk 141 zc141 rfl [6, 10, 14, 18, 21, 25, 29, 33, 36, 40, 43, 46, 50, 54, 58, 62, 66, 70, 74, 78, 82, 86, 90, 94, 98, 102, 106, 110, 114, 118, 122, 126, 130, 134, 138, 142, 146, 150, 154, 158, 162, 166, 170, 174, 178, 182, 186, 191] 193 178 _ _ _ _).trans rfl
-- yX12_init
theorem q141_182 (r0 : Int) (M : zM) (X : zX) : zex 141 182 [] [(2, r0)] M X = zg (0 ≤ (64 : Int) ∧ (64 : Int) ≤ 65536 ∧ 1 ≤ X.2.1 ∧ Int.toNat (64 : Int) ≤ X.2.2) (zg (zkd (X.1 ++ [(1, Int.toNat (64 : Int))], X.2.1 - 1, X.2.2 - Int.toNat (64 : Int)) r0 = (18, 0)) (zex 141 186 [] [(2, r0)] (zu (zclr M ((X.1.length : Int) + 1)) r0 66 ((X.1.length : Int) + 1)) (X.1 ++ [(1, Int.toNat (64 : Int))], X.2.1 - 1, X.2.2 - Int.toNat (64 : Int)))) :=
  (zblk 141 zc141 rfl [6, 10, 14, 18, 21, 25, 29, 33, 36, 40, 43, 46, 50, 54, 58, 62, 66, 70, 74, 78, 82, 86, 90, 94, 98, 102, 106, 110, 114, 118, 122, 126, 130, 134, 138, 142, 146, 150, 154, 158, 162, 166, 170, 174, 178, 182, 186, 191] 193 182 _ _ _ _).trans rfl
