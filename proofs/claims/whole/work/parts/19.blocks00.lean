/-! BLOCKS of the abstract run, by program -/
-- yX0_init
theorem q0_0 (r0 : Int) (d1 : zV) (M : zM) (X : zX) : zex 0 0 [] [(2, r0), d1] M X = zg (0 ≤ (3 : Int) ∧ (3 : Int) ≤ 65536 ∧ 1 ≤ X.2.1 ∧ Int.toNat (3 : Int) ≤ X.2.2) (zg (zkd (X.1 ++ [(3, Int.toNat (3 : Int))], X.2.1 - 1, X.2.2 - Int.toNat (3 : Int)) r0 = (6, 0)) (zex 0 6 [] [(2, r0), d1] (zu (zclr M ((X.1.length : Int) + 1)) r0 0 ((X.1.length : Int) + 1)) (X.1 ++ [(3, Int.toNat (3 : Int))], X.2.1 - 1, X.2.2 - Int.toNat (3 : Int)))) :=
  (zblk 0 zc0 rfl [6, 10, 12] 26 0 _ _ _ _).trans rfl
-- yX0_init
theorem q0_6 (r0 : Int) (d1 : zV) (M : zM) (X : zX) : zex 0 6 [] [(2, r0), d1] M X = zg (0 ≤ (801 : Int) ∧ (801 : Int) ≤ 65536 ∧ 1 ≤ X.2.1 ∧ Int.toNat (801 : Int) ≤ X.2.2) (zg (zkd (X.1 ++ [(0, Int.toNat (801 : Int))], X.2.1 - 1, X.2.2 - Int.toNat (801 : Int)) r0 = (6, 0)) (zex 0 10 [] [(2, r0), d1] (zu (zclr M ((X.1.length : Int) + 1)) r0 1 ((X.1.length : Int) + 1)) (X.1 ++ [(0, Int.toNat (801 : Int))], X.2.1 - 1, X.2.2 - Int.toNat (801 : Int)))) :=
  (zblk 0 zc0 rfl [6, 10, 12] 26 6 _ _ _ _).trans rfl
-- yX0_init
theorem q0_10 (r0 : Int) (d1 : zV) (M : zM) (X : zX) : zex 0 10 [] [(2, r0), d1] M X = zex 0 12 [] [(2, r0), (0, (0 : Int))] M X :=
  (zblk 0 zc0 rfl [6, 10, 12] 26 10 _ _ _ _).trans rfl
-- yX0_init
theorem q0_12 (r0 : Int) (x1 : Int) (M : zM) (X : zX) : zex 0 12 [] [(2, r0), (0, x1)] M X = if (3 : Int) ≤ x1 then some ((9, 0), M, X) else zg (zkd X r0 = (6, 0) ∧ 0 < (M r0 0)) (zg (1 ≤ X.2.1 ∧ 4 ≤ X.2.2) (zg (zkd (X.1 ++ [(7, 0)], X.2.1 - 1, X.2.2 - 4) ((X.1.length : Int) + 1) = (7, 0)) (zbN (zex 8 0 [] [(2, ((X.1.length : Int) + 1))] (zclr M ((X.1.length : Int) + 1)) (X.1 ++ [(7, 0)], X.2.1 - 1, X.2.2 - 4)) (fun M1 X1 => zg ((zkd X1 (M r0 0)).1 = 3 ∧ 0 ≤ x1 ∧ x1 < ((zkd X1 (M r0 0)).2 : Int) ∧ zkd X1 ((X.1.length : Int) + 1) = (7, 0)) (zg (zI (x1 + (1 : Int))) (zex 0 12 [] [(2, r0), (0, (x1 + (1 : Int)))] (zu M1 (M r0 0) x1 ((X.1.length : Int) + 1)) X1)))))) :=
  (zblk 0 zc0 rfl [6, 10, 12] 26 12 _ _ _ _).trans rfl
-- yX0_strip
theorem q1_0 (r0 : Int) (d1 : zV) (M : zM) (X : zX) : zex 1 0 [] [(2, r0), d1] M X = zex 1 2 [] [(2, r0), (0, (0 : Int))] M X :=
  (zblk 1 zc1 rfl [2, 11, 20, 23] 25 0 _ _ _ _).trans rfl
-- yX0_strip
theorem q1_2 (r0 : Int) (x1 : Int) (M : zM) (X : zX) : zex 1 2 [] [(2, r0), (0, x1)] M X = if (3 : Int) ≤ x1 then zg (zkd X r0 = (6, 0) ∧ 0 < (M r0 1)) (zbN (zex 223 0 [] [(2, (M r0 1)), (0, (0 : Int)), (9, 0), (9, 0)] M X) (fun M1 X1 => zg (zkd X1 r0 = (6, 0)) (zex 1 20 [] [(2, r0), (0, x1)] (zu M1 r0 2 (0 : Int)) X1))) else zg (zkd X r0 = (6, 0) ∧ 0 < (M r0 0)) (zg ((zkd X (M r0 0)).1 = 3 ∧ 0 ≤ x1 ∧ x1 < ((zkd X (M r0 0)).2 : Int) ∧ 0 < (M (M r0 0) x1)) (zg (zkd X (M (M r0 0) x1) = (7, 0)) (zex 1 11 [] [(2, r0), (0, x1)] (zu M (M (M r0 0) x1) 0 (0 : Int)) X))) :=
  (zblk 1 zc1 rfl [2, 11, 20, 23] 25 2 _ _ _ _).trans rfl
-- yX0_strip
theorem q1_11 (r0 : Int) (x1 : Int) (M : zM) (X : zX) : zex 1 11 [] [(2, r0), (0, x1)] M X = zg (zI (x1 + (1 : Int))) (zex 1 2 [] [(2, r0), (0, (x1 + (1 : Int)))] M X) :=
  (zblk 1 zc1 rfl [2, 11, 20, 23] 25 11 _ _ _ _).trans rfl
-- yX0_strip
theorem q1_20 (r0 : Int) (x1 : Int) (M : zM) (X : zX) : zex 1 20 [] [(2, r0), (0, x1)] M X = zg (zkd X r0 = (6, 0)) (zex 1 23 [] [(2, r0), (0, x1)] (zu M r0 3 (2 : Int)) X) :=
  (zblk 1 zc1 rfl [2, 11, 20, 23] 25 20 _ _ _ _).trans rfl
-- yX0_strip
theorem q1_23 (r0 : Int) (x1 : Int) (M : zM) (X : zX) : zex 1 23 [] [(2, r0), (0, x1)] M X = some ((9, 0), M, X) :=
  (zblk 1 zc1 rfl [2, 11, 20, 23] 25 23 _ _ _ _).trans rfl
-- yX0_become
theorem q2_0 (r0 : Int) (r1 : Int) (d2 : zV) (M : zM) (X : zX) : zex 2 0 [] [(2, r0), (2, r1), d2] M X = zex 2 2 [] [(2, r0), (2, r1), (0, (0 : Int))] M X :=
  (zblk 2 zc2 rfl [2] 36 0 _ _ _ _).trans rfl
-- yX0_become
set_option maxRecDepth 20000 in
theorem q2_2 (r0 : Int) (r1 : Int) (x2 : Int) (M : zM) (X : zX) : zex 2 2 [] [(2, r0), (2, r1), (0, x2)] M X = if (3 : Int) ≤ x2 then zg (zkd X r1 = (6, 0) ∧ 0 < (M r1 1)) (zg (zkd X r0 = (6, 0) ∧ 0 < (M r0 1)) (zg (zkd X r0 = (6, 0) ∧ 0 < (M r0 1)) (zg ((zkd X (M r0 1)).1 = 0 ∧ (zkd X (M r0 1)).2 ≤ 65536) (zg ((zkd X (M r1 1)).1 = 0 ∧ (zkd X (M r0 1)).1 = 0 ∧ 0 ≤ ((zkd X (M r0 1)).2 : Int) ∧ 0 ≤ (0 : Int) ∧ 0 ≤ (0 : Int) ∧ (0 : Int) + ((zkd X (M r0 1)).2 : Int) ≤ ((zkd X (M r1 1)).2 : Int) ∧ (0 : Int) + ((zkd X (M r0 1)).2 : Int) ≤ ((zkd X (M r0 1)).2 : Int)) (zg (zkd X r1 = (6, 0)) (zg (zkd X r0 = (6, 0)) (zg (zkd X r1 = (6, 0)) (zg (zkd X r0 = (6, 0)) (some ((9, 0), (zu (zu (zcpy M (M r1 1) (0 : Int) (M r0 1) (0 : Int) ((zkd X (M r0 1)).2 : Int)) r0 2 ((zcpy M (M r1 1) (0 : Int) (M r0 1) (0 : Int) ((zkd X (M r0 1)).2 : Int)) r1 2)) r0 3 ((zu (zcpy M (M r1 1) (0 : Int) (M r0 1) (0 : Int) ((zkd X (M r0 1)).2 : Int)) r0 2 ((zcpy M (M r1 1) (0 : Int) (M r0 1) (0 : Int) ((zkd X (M r0 1)).2 : Int)) r1 2)) r1 3)), X)))))))))) else zg (zkd X r0 = (6, 0) ∧ 0 < (M r0 0)) (zg ((zkd X (M r0 0)).1 = 3 ∧ 0 ≤ x2 ∧ x2 < ((zkd X (M r0 0)).2 : Int) ∧ 0 < (M (M r0 0) x2)) (zg (zkd X r1 = (6, 0) ∧ 0 < (M r1 0)) (zg ((zkd X (M r1 0)).1 = 3 ∧ 0 ≤ x2 ∧ x2 < ((zkd X (M r1 0)).2 : Int) ∧ 0 < (M (M r1 0) x2)) (zg (zkd X (M (M r0 0) x2) = (7, 0)) (zbN (zex 14 0 [] [(2, (M (M r0 0) x2)), (2, (M (M r1 0) x2)), (9, 0)] M X) (fun M1 X1 => zg (zI (x2 + (1 : Int))) (zex 2 2 [] [(2, r0), (2, r1), (0, (x2 + (1 : Int)))] M1 X1))))))) :=
  (zblk 2 zc2 rfl [2] 36 2 _ _ _ _).trans rfl
-- yX0_actAt
theorem q3_0 (r0 : Int) (x1 : Int) (M : zM) (X : zX) : zex 3 0 [] [(2, r0), (0, x1)] M X = zbI (zex 133 0 [] [(0, x1), (0, (-400 : Int)), (0, (400 : Int))] M X) (fun v1 M1 X1 => if v1 = 0 then zex 3 13 [(0, (0 : Int))] [(2, r0), (0, x1)] M1 X1 else zg (zkd X1 r0 = (6, 0) ∧ 0 < (M1 r0 1)) (zg (zI (x1 + (400 : Int))) (zg ((zkd X1 (M1 r0 1)).1 = 0 ∧ 0 ≤ (x1 + (400 : Int)) ∧ (x1 + (400 : Int)) < ((zkd X1 (M1 r0 1)).2 : Int)) (zex 3 13 [(0, (M1 (M1 r0 1) (x1 + (400 : Int))))] [(2, r0), (0, x1)] M1 X1)))) :=
  (zblk 3 zc3 rfl [13] 15 0 _ _ _ _).trans rfl
-- yX0_actAt
theorem q3_13 (s0 : Int) (r0 : Int) (x1 : Int) (M : zM) (X : zX) : zex 3 13 [(0, s0)] [(2, r0), (0, x1)] M X = some ((0, s0), M, X) :=
  (zblk 3 zc3 rfl [13] 15 13 _ _ _ _).trans rfl
-- yX0_setAct
theorem q4_0 (r0 : Int) (x1 : Int) (x2 : Int) (d3 : zV) (M : zM) (X : zX) : zex 4 0 [] [(2, r0), (0, x1), (0, x2), d3] M X = zbI (zex 133 0 [] [(0, x1), (0, (-400 : Int)), (0, (400 : Int))] M X) (fun v1 M1 X1 => if v1 = 0 then some ((9, 0), M1, X1) else zg (zkd X1 r0 = (6, 0) ∧ 0 < (M1 r0 1)) (zg (zI (x1 + (400 : Int))) (zg ((zkd X1 (M1 r0 1)).1 = 0 ∧ 0 ≤ (x1 + (400 : Int)) ∧ (x1 + (400 : Int)) < ((zkd X1 (M1 r0 1)).2 : Int)) (zg (zkd X1 r0 = (6, 0) ∧ 0 < (M1 r0 1)) (zg (zI (x1 + (400 : Int))) (zg ((zkd X1 (M1 r0 1)).1 = 0 ∧ 0 ≤ (x1 + (400 : Int)) ∧ (x1 + (400 : Int)) < ((zkd X1 (M1 r0 1)).2 : Int)) (zex 4 20 [] [(2, r0), (0, x1), (0, x2), (0, (M1 (M1 r0 1) (x1 + (400 : Int))))] (zu M1 (M1 r0 1) (x1 + (400 : Int)) x2) X1))))))) :=
  (zblk 4 zc4 rfl [20, 30, 40] 42 0 _ _ _ _).trans rfl
-- yX0_setAct
theorem q4_20 (r0 : Int) (x1 : Int) (x2 : Int) (x3 : Int) (M : zM) (X : zX) : zex 4 20 [] [(2, r0), (0, x1), (0, x2), (0, x3)] M X = if x3 = 0 then if x2 = 0 then zex 4 30 [] [(2, r0), (0, x1), (0, x2), (0, x3)] M X else zg (zkd X r0 = (6, 0)) (zg (zI ((M r0 2) + (1 : Int))) (zg (zkd X r0 = (6, 0)) (zex 4 30 [] [(2, r0), (0, x1), (0, x2), (0, x3)] (zu M r0 2 ((M r0 2) + (1 : Int))) X))) else zex 4 30 [] [(2, r0), (0, x1), (0, x2), (0, x3)] M X :=
  (zblk 4 zc4 rfl [20, 30, 40] 42 20 _ _ _ _).trans rfl
-- yX0_setAct
theorem q4_30 (r0 : Int) (x1 : Int) (x2 : Int) (x3 : Int) (M : zM) (X : zX) : zex 4 30 [] [(2, r0), (0, x1), (0, x2), (0, x3)] M X = if x3 = 0 then zex 4 40 [] [(2, r0), (0, x1), (0, x2), (0, x3)] M X else if x2 = 0 then zg (zkd X r0 = (6, 0)) (zg (zI ((M r0 2) - (1 : Int))) (zg (zkd X r0 = (6, 0)) (zex 4 40 [] [(2, r0), (0, x1), (0, x2), (0, x3)] (zu M r0 2 ((M r0 2) - (1 : Int))) X))) else zex 4 40 [] [(2, r0), (0, x1), (0, x2), (0, x3)] M X :=
  (zblk 4 zc4 rfl [20, 30, 40] 42 30 _ _ _ _).trans rfl
-- yX0_setAct
theorem q4_40 (r0 : Int) (x1 : Int) (x2 : Int) (x3 : Int) (M : zM) (X : zX) : zex 4 40 [] [(2, r0), (0, x1), (0, x2), (0, x3)] M X = some ((9, 0), M, X) :=
  (zblk 4 zc4 rfl [20, 30, 40] 42 40 _ _ _ _).trans rfl
-- yX0_segments
theorem q5_0 (r0 : Int) (d1 : zV) (d2 : zV) (M : zM) (X : zX) : zex 5 0 [] [(2, r0), d1, d2] M X = zex 5 4 [] [(2, r0), (0, (0 : Int)), (0, (0 : Int))] M X :=
  (zblk 5 zc5 rfl [4] 20 0 _ _ _ _).trans rfl
-- yX0_segments
theorem q5_4 (r0 : Int) (x1 : Int) (x2 : Int) (M : zM) (X : zX) : zex 5 4 [] [(2, r0), (0, x1), (0, x2)] M X = if (3 : Int) ≤ x2 then some ((0, x1), M, X) else zg (zkd X r0 = (6, 0) ∧ 0 < (M r0 0)) (zg ((zkd X (M r0 0)).1 = 3 ∧ 0 ≤ x2 ∧ x2 < ((zkd X (M r0 0)).2 : Int) ∧ 0 < (M (M r0 0) x2)) (zg (zkd X (M (M r0 0) x2) = (7, 0)) (zg (zI (x1 + (M (M (M r0 0) x2) 0))) (zg (zI (x2 + (1 : Int))) (zex 5 4 [] [(2, r0), (0, (x1 + (M (M (M r0 0) x2) 0))), (0, (x2 + (1 : Int)))] M X))))) :=
  (zblk 5 zc5 rfl [4] 20 4 _ _ _ _).trans rfl
-- yX0_gaps
theorem q6_0 (r0 : Int) (d1 : zV) (d2 : zV) (M : zM) (X : zX) : zex 6 0 [] [(2, r0), d1, d2] M X = zex 6 4 [] [(2, r0), (0, (0 : Int)), (0, (0 : Int))] M X :=
  (zblk 6 zc6 rfl [4] 20 0 _ _ _ _).trans rfl
-- yX0_gaps
theorem q6_4 (r0 : Int) (x1 : Int) (x2 : Int) (M : zM) (X : zX) : zex 6 4 [] [(2, r0), (0, x1), (0, x2)] M X = if (3 : Int) ≤ x2 then some ((0, x1), M, X) else zg (zkd X r0 = (6, 0) ∧ 0 < (M r0 0)) (zg ((zkd X (M r0 0)).1 = 3 ∧ 0 ≤ x2 ∧ x2 < ((zkd X (M r0 0)).2 : Int) ∧ 0 < (M (M r0 0) x2)) (zg (zkd X (M (M r0 0) x2) = (7, 0)) (zbI (zex 13 0 [] [(2, (M (M r0 0) x2)), (9, 0), (9, 0)] M X) (fun v1 M1 X1 => zg (zI (x1 + v1)) (zg (zI (x2 + (1 : Int))) (zex 6 4 [] [(2, r0), (0, (x1 + v1)), (0, (x2 + (1 : Int)))] M1 X1)))))) :=
  (zblk 6 zc6 rfl [4] 20 4 _ _ _ _).trans rfl
-- yX0_throwFailure
theorem q7_0 (r0 : Int) (M : zM) (X : zX) : zex 7 0 [] [(2, r0)] M X = zg (zkd X r0 = (6, 0)) (zbI (zex 6 0 [] [(2, r0), (9, 0), (9, 0)] M X) (fun v1 M1 X1 => if v1 ≤ 0 then some ((9, 0), M1, X1) else zg (1 ≤ X1.2.1 ∧ 6 ≤ X1.2.2) (some ((8, 1000 * ((2 : Nat) : Int) + ((3 : Nat) : Int)), M1, (X1.1, X1.2.1 - 1, X1.2.2 - 6))))) :=
  (zblk 7 zc7 rfl [] 10 0 _ _ _ _).trans rfl
-- yX1_init
theorem q8_0 (r0 : Int) (M : zM) (X : zX) : zex 8 0 [] [(2, r0)] M X = zg (0 ≤ (40 : Int) ∧ (40 : Int) ≤ 65536 ∧ 1 ≤ X.2.1 ∧ Int.toNat (40 : Int) ≤ X.2.2) (zg (zkd (X.1 ++ [(0, Int.toNat (40 : Int))], X.2.1 - 1, X.2.2 - Int.toNat (40 : Int)) r0 = (7, 0)) (zex 8 6 [] [(2, r0)] (zu (zclr M ((X.1.length : Int) + 1)) r0 1 ((X.1.length : Int) + 1)) (X.1 ++ [(0, Int.toNat (40 : Int))], X.2.1 - 1, X.2.2 - Int.toNat (40 : Int)))) :=
  (zblk 8 zc8 rfl [6, 10, 14] 16 0 _ _ _ _).trans rfl
-- yX1_init
theorem q8_6 (r0 : Int) (M : zM) (X : zX) : zex 8 6 [] [(2, r0)] M X = zg (0 ≤ (40 : Int) ∧ (40 : Int) ≤ 65536 ∧ 1 ≤ X.2.1 ∧ Int.toNat (40 : Int) ≤ X.2.2) (zg (zkd (X.1 ++ [(0, Int.toNat (40 : Int))], X.2.1 - 1, X.2.2 - Int.toNat (40 : Int)) r0 = (7, 0)) (zex 8 10 [] [(2, r0)] (zu (zclr M ((X.1.length : Int) + 1)) r0 2 ((X.1.length : Int) + 1)) (X.1 ++ [(0, Int.toNat (40 : Int))], X.2.1 - 1, X.2.2 - Int.toNat (40 : Int)))) :=
  (zblk 8 zc8 rfl [6, 10, 14] 16 6 _ _ _ _).trans rfl
-- yX1_init
theorem q8_10 (r0 : Int) (M : zM) (X : zX) : zex 8 10 [] [(2, r0)] M X = zg (0 ≤ (40 : Int) ∧ (40 : Int) ≤ 65536 ∧ 1 ≤ X.2.1 ∧ Int.toNat (40 : Int) ≤ X.2.2) (zg (zkd (X.1 ++ [(0, Int.toNat (40 : Int))], X.2.1 - 1, X.2.2 - Int.toNat (40 : Int)) r0 = (7, 0)) (zex 8 14 [] [(2, r0)] (zu (zclr M ((X.1.length : Int) + 1)) r0 3 ((X.1.length : Int) + 1)) (X.1 ++ [(0, Int.toNat (40 : Int))], X.2.1 - 1, X.2.2 - Int.toNat (40 : Int)))) :=
  (zblk 8 zc8 rfl [6, 10, 14] 16 10 _ _ _ _).trans rfl
-- yX1_init
theorem q8_14 (r0 : Int) (M : zM) (X : zX) : zex 8 14 [] [(2, r0)] M X = some ((9, 0), M, X) :=
  (zblk 8 zc8 rfl [6, 10, 14] 16 14 _ _ _ _).trans rfl
-- yX1_has
theorem q9_0 (r0 : Int) (x1 : Int) (M : zM) (X : zX) : zex 9 0 [] [(2, r0), (0, x1)] M X = if x1 < 0 then zex 9 8 [] [(2, r0), (0, x1)] M X else zg (zkd X r0 = (7, 0)) (if (M r0 0) ≤ x1 then zex 9 8 [] [(2, r0), (0, x1)] M X else zex 9 9 [(0, (1 : Int))] [(2, r0), (0, x1)] M X) :=
  (zblk 9 zc9 rfl [8, 9] 11 0 _ _ _ _).trans rfl
-- yX1_has
theorem q9_8 (r0 : Int) (x1 : Int) (M : zM) (X : zX) : zex 9 8 [] [(2, r0), (0, x1)] M X = zex 9 9 [(0, (0 : Int))] [(2, r0), (0, x1)] M X :=
  (zblk 9 zc9 rfl [8, 9] 11 8 _ _ _ _).trans rfl
-- yX1_has
theorem q9_9 (s0 : Int) (r0 : Int) (x1 : Int) (M : zM) (X : zX) : zex 9 9 [(0, s0)] [(2, r0), (0, x1)] M X = zg (s0 = 0 ∨ s0 = 1) (some ((0, s0), M, X)) :=
  (zblk 9 zc9 rfl [8, 9] 11 9 _ _ _ _).trans rfl
-- yX1_add
theorem q10_0 (r0 : Int) (x1 : Int) (x2 : Int) (x3 : Int) (M : zM) (X : zX) : zex 10 0 [] [(2, r0), (0, x1), (0, x2), (0, x3)] M X = zg (zkd X r0 = (7, 0)) (if (40 : Int) ≤ (M r0 0) then zex 10 28 [] [(2, r0), (0, x1), (0, x2), (0, x3)] M X else zg (zkd X r0 = (7, 0) ∧ 0 < (M r0 1)) (zg (zkd X r0 = (7, 0)) (zg ((zkd X (M r0 1)).1 = 0 ∧ 0 ≤ (M r0 0) ∧ (M r0 0) < ((zkd X (M r0 1)).2 : Int)) (zex 10 10 [] [(2, r0), (0, x1), (0, x2), (0, x3)] (zu M (M r0 1) (M r0 0) x1) X)))) :=
  (zblk 10 zc10 rfl [10, 16, 22, 28] 30 0 _ _ _ _).trans rfl
-- yX1_add
theorem q10_10 (r0 : Int) (x1 : Int) (x2 : Int) (x3 : Int) (M : zM) (X : zX) : zex 10 10 [] [(2, r0), (0, x1), (0, x2), (0, x3)] M X = zg (zkd X r0 = (7, 0) ∧ 0 < (M r0 2)) (zg (zkd X r0 = (7, 0)) (zg ((zkd X (M r0 2)).1 = 0 ∧ 0 ≤ (M r0 0) ∧ (M r0 0) < ((zkd X (M r0 2)).2 : Int)) (zex 10 16 [] [(2, r0), (0, x1), (0, x2), (0, x3)] (zu M (M r0 2) (M r0 0) x2) X))) :=
  (zblk 10 zc10 rfl [10, 16, 22, 28] 30 10 _ _ _ _).trans rfl
-- yX1_add
theorem q10_16 (r0 : Int) (x1 : Int) (x2 : Int) (x3 : Int) (M : zM) (X : zX) : zex 10 16 [] [(2, r0), (0, x1), (0, x2), (0, x3)] M X = zg (zkd X r0 = (7, 0) ∧ 0 < (M r0 3)) (zg (zkd X r0 = (7, 0)) (zg ((zkd X (M r0 3)).1 = 0 ∧ 0 ≤ (M r0 0) ∧ (M r0 0) < ((zkd X (M r0 3)).2 : Int)) (zex 10 22 [] [(2, r0), (0, x1), (0, x2), (0, x3)] (zu M (M r0 3) (M r0 0) x3) X))) :=
  (zblk 10 zc10 rfl [10, 16, 22, 28] 30 16 _ _ _ _).trans rfl
-- yX1_add
theorem q10_22 (r0 : Int) (x1 : Int) (x2 : Int) (x3 : Int) (M : zM) (X : zX) : zex 10 22 [] [(2, r0), (0, x1), (0, x2), (0, x3)] M X = zg (zkd X r0 = (7, 0)) (zg (zI ((M r0 0) + (1 : Int))) (zg (zkd X r0 = (7, 0)) (zex 10 28 [] [(2, r0), (0, x1), (0, x2), (0, x3)] (zu M r0 0 ((M r0 0) + (1 : Int))) X))) :=
  (zblk 10 zc10 rfl [10, 16, 22, 28] 30 22 _ _ _ _).trans rfl
-- yX1_add
theorem q10_28 (r0 : Int) (x1 : Int) (x2 : Int) (x3 : Int) (M : zM) (X : zX) : zex 10 28 [] [(2, r0), (0, x1), (0, x2), (0, x3)] M X = some ((9, 0), M, X) :=
  (zblk 10 zc10 rfl [10, 16, 22, 28] 30 28 _ _ _ _).trans rfl
-- yX1_addUnits
set_option maxRecDepth 20000 in
theorem q11_0 (r0 : Int) (x1 : Int) (x2 : Int) (d3 : zV) (d4 : zV) (d5 : zV) (M : zM) (X : zX) : zex 11 0 [] [(2, r0), (0, x1), (0, x2), d3, d4, d5] M X = zg (zkd X r0 = (7, 0)) (if (M r0 0) ≤ 0 then zex 11 41 [] [(2, r0), (0, x1), (0, x2), (0, x2), d4, d5] M X else zg (zkd X r0 = (7, 0) ∧ 0 < (M r0 1)) (zg (zkd X r0 = (7, 0)) (zg (zI ((M r0 0) - (1 : Int))) (zg ((zkd X (M r0 1)).1 = 0 ∧ 0 ≤ ((M r0 0) - (1 : Int)) ∧ ((M r0 0) - (1 : Int)) < ((zkd X (M r0 1)).2 : Int)) (if (M (M r0 1) ((M r0 0) - (1 : Int))) = x1 then zg (zkd X r0 = (7, 0) ∧ 0 < (M r0 2)) (zg (zkd X r0 = (7, 0)) (zg (zI ((M r0 0) - (1 : Int))) (zg ((zkd X (M r0 2)).1 = 0 ∧ 0 ≤ ((M r0 0) - (1 : Int)) ∧ ((M r0 0) - (1 : Int)) < ((zkd X (M r0 2)).2 : Int)) (zg (zI ((200 : Int) - (M (M r0 2) ((M r0 0) - (1 : Int))))) (zbI (zex 221 0 [] [(0, x2), (0, ((200 : Int) - (M (M r0 2) ((M r0 0) - (1 : Int)))))] M X) (fun v1 M1 X1 => zg (zkd X1 r0 = (7, 0) ∧ 0 < (M1 r0 2)) (zg (zkd X1 r0 = (7, 0)) (zg (zI ((M1 r0 0) - (1 : Int))) (zg ((zkd X1 (M1 r0 2)).1 = 0 ∧ 0 ≤ ((M1 r0 0) - (1 : Int)) ∧ ((M1 r0 0) - (1 : Int)) < ((zkd X1 (M1 r0 2)).2 : Int)) (zg (zI ((M1 (M1 r0 2) ((M1 r0 0) - (1 : Int))) + v1)) (zg ((zkd X1 (M1 r0 2)).1 = 0 ∧ 0 ≤ ((M1 r0 0) - (1 : Int)) ∧ ((M1 r0 0) - (1 : Int)) < ((zkd X1 (M1 r0 2)).2 : Int)) (zg (zI (x2 - v1)) (zex 11 41 [] [(2, r0), (0, x1), (0, x2), (0, (x2 - v1)), (0, v1), d5] (zu M1 (M1 r0 2) ((M1 r0 0) - (1 : Int)) ((M1 (M1 r0 2) ((M1 r0 0) - (1 : Int))) + v1)) X1))))))))))))) else zex 11 41 [] [(2, r0), (0, x1), (0, x2), (0, x2), d4, d5] M X))))) :=
  (zblk 11 zc11 rfl [41, 44, 64, 69] 71 0 _ _ _ _).trans rfl
-- yX1_addUnits
theorem q11_41 (r0 : Int) (x1 : Int) (x2 : Int) (x3 : Int) (d4 : zV) (d5 : zV) (M : zM) (X : zX) : zex 11 41 [] [(2, r0), (0, x1), (0, x2), (0, x3), d4, d5] M X = zg (zkd X r0 = (7, 0)) (zex 11 44 [] [(2, r0), (0, x1), (0, x2), (0, x3), (0, (M r0 0)), d5] M X) :=
  (zblk 11 zc11 rfl [41, 44, 64, 69] 71 41 _ _ _ _).trans rfl
-- yX1_addUnits
theorem q11_44 (r0 : Int) (x1 : Int) (x2 : Int) (x3 : Int) (x4 : Int) (d5 : zV) (M : zM) (X : zX) : zex 11 44 [] [(2, r0), (0, x1), (0, x2), (0, x3), (0, x4), d5] M X = if (40 : Int) ≤ x4 then zex 11 64 [] [(2, r0), (0, x1), (0, x2), (0, x3), (0, x4), d5] M X else if x3 ≤ 0 then zex 11 64 [] [(2, r0), (0, x1), (0, x2), (0, x3), (0, x4), d5] M X else zbI (zex 221 0 [] [(0, x3), (0, (200 : Int))] M X) (fun v1 M1 X1 => zg (zkd X1 r0 = (7, 0)) (zbN (zex 10 0 [] [(2, r0), (0, x1), (0, v1), (0, (0 : Int))] M1 X1) (fun M2 X2 => zg (zI (x3 - v1)) (zg (zI (x4 + (1 : Int))) (zex 11 44 [] [(2, r0), (0, x1), (0, x2), (0, (x3 - v1)), (0, (x4 + (1 : Int))), (0, v1)] M2 X2))))) :=
  (zblk 11 zc11 rfl [41, 44, 64, 69] 71 44 _ _ _ _).trans rfl
-- yX1_addUnits
theorem q11_64 (r0 : Int) (x1 : Int) (x2 : Int) (x3 : Int) (x4 : Int) (d5 : zV) (M : zM) (X : zX) : zex 11 64 [] [(2, r0), (0, x1), (0, x2), (0, x3), (0, x4), d5] M X = if x3 = 0 then zex 11 69 [(0, (1 : Int))] [(2, r0), (0, x1), (0, x2), (0, x3), (0, x4), d5] M X else zex 11 69 [(0, (0 : Int))] [(2, r0), (0, x1), (0, x2), (0, x3), (0, x4), d5] M X :=
  (zblk 11 zc11 rfl [41, 44, 64, 69] 71 64 _ _ _ _).trans rfl
-- yX1_addUnits
theorem q11_69 (s0 : Int) (r0 : Int) (x1 : Int) (x2 : Int) (x3 : Int) (x4 : Int) (d5 : zV) (M : zM) (X : zX) : zex 11 69 [(0, s0)] [(2, r0), (0, x1), (0, x2), (0, x3), (0, x4), d5] M X = zg (s0 = 0 ∨ s0 = 1) (some ((0, s0), M, X)) :=
  (zblk 11 zc11 rfl [41, 44, 64, 69] 71 69 _ _ _ _).trans rfl
-- yX1_units
theorem q12_0 (r0 : Int) (d1 : zV) (d2 : zV) (M : zM) (X : zX) : zex 12 0 [] [(2, r0), d1, d2] M X = zex 12 4 [] [(2, r0), (0, (0 : Int)), (0, (0 : Int))] M X :=
  (zblk 12 zc12 rfl [4] 20 0 _ _ _ _).trans rfl
-- yX1_units
theorem q12_4 (r0 : Int) (x1 : Int) (x2 : Int) (M : zM) (X : zX) : zex 12 4 [] [(2, r0), (0, x1), (0, x2)] M X = zg (zkd X r0 = (7, 0)) (if (M r0 0) ≤ x2 then some ((0, x1), M, X) else zg (zkd X r0 = (7, 0) ∧ 0 < (M r0 2)) (zg ((zkd X (M r0 2)).1 = 0 ∧ 0 ≤ x2 ∧ x2 < ((zkd X (M r0 2)).2 : Int)) (zg (zI (x1 + (M (M r0 2) x2))) (zg (zI (x2 + (1 : Int))) (zex 12 4 [] [(2, r0), (0, (x1 + (M (M r0 2) x2))), (0, (x2 + (1 : Int)))] M X))))) :=
  (zblk 12 zc12 rfl [4] 20 4 _ _ _ _).trans rfl
-- yX1_gaps
theorem q13_0 (r0 : Int) (d1 : zV) (d2 : zV) (M : zM) (X : zX) : zex 13 0 [] [(2, r0), d1, d2] M X = zex 13 4 [] [(2, r0), (0, (0 : Int)), (0, (0 : Int))] M X :=
  (zblk 13 zc13 rfl [4, 15] 20 0 _ _ _ _).trans rfl
-- yX1_gaps
theorem q13_4 (r0 : Int) (x1 : Int) (x2 : Int) (M : zM) (X : zX) : zex 13 4 [] [(2, r0), (0, x1), (0, x2)] M X = zg (zkd X r0 = (7, 0)) (if (M r0 0) ≤ x2 then some ((0, x1), M, X) else zg (zkd X r0 = (7, 0) ∧ 0 < (M r0 1)) (zg ((zkd X (M r0 1)).1 = 0 ∧ 0 ≤ x2 ∧ x2 < ((zkd X (M r0 1)).2 : Int)) (if (M (M r0 1) x2) = (3 : Int) then zg (zI (x1 + (1 : Int))) (zex 13 15 [] [(2, r0), (0, (x1 + (1 : Int))), (0, x2)] M X) else zex 13 15 [] [(2, r0), (0, x1), (0, x2)] M X))) :=
  (zblk 13 zc13 rfl [4, 15] 20 4 _ _ _ _).trans rfl
-- yX1_gaps
theorem q13_15 (r0 : Int) (x1 : Int) (x2 : Int) (M : zM) (X : zX) : zex 13 15 [] [(2, r0), (0, x1), (0, x2)] M X = zg (zI (x2 + (1 : Int))) (zex 13 4 [] [(2, r0), (0, x1), (0, (x2 + (1 : Int)))] M X) :=
  (zblk 13 zc13 rfl [4, 15] 20 15 _ _ _ _).trans rfl
-- yX1_become
theorem q14_0 (r0 : Int) (r1 : Int) (d2 : zV) (M : zM) (X : zX) : zex 14 0 [] [(2, r0), (2, r1), d2] M X = zg (zkd X r1 = (7, 0)) (zg (zkd X r0 = (7, 0)) (zex 14 4 [] [(2, r0), (2, r1), d2] (zu M r0 0 (M r1 0)) X)) :=
  (zblk 14 zc14 rfl [4, 6, 18, 26, 34] 38 0 _ _ _ _).trans rfl
-- yX1_become
theorem q14_4 (r0 : Int) (r1 : Int) (d2 : zV) (M : zM) (X : zX) : zex 14 4 [] [(2, r0), (2, r1), d2] M X = zex 14 6 [] [(2, r0), (2, r1), (0, (0 : Int))] M X :=
  (zblk 14 zc14 rfl [4, 6, 18, 26, 34] 38 4 _ _ _ _).trans rfl
-- yX1_become
theorem q14_6 (r0 : Int) (r1 : Int) (x2 : Int) (M : zM) (X : zX) : zex 14 6 [] [(2, r0), (2, r1), (0, x2)] M X = zg (zkd X r0 = (7, 0)) (if (M r0 0) ≤ x2 then some ((9, 0), M, X) else zg (zkd X r0 = (7, 0) ∧ 0 < (M r0 1)) (zg (zkd X r1 = (7, 0) ∧ 0 < (M r1 1)) (zg ((zkd X (M r1 1)).1 = 0 ∧ 0 ≤ x2 ∧ x2 < ((zkd X (M r1 1)).2 : Int)) (zg ((zkd X (M r0 1)).1 = 0 ∧ 0 ≤ x2 ∧ x2 < ((zkd X (M r0 1)).2 : Int)) (zex 14 18 [] [(2, r0), (2, r1), (0, x2)] (zu M (M r0 1) x2 (M (M r1 1) x2)) X))))) :=
  (zblk 14 zc14 rfl [4, 6, 18, 26, 34] 38 6 _ _ _ _).trans rfl
-- yX1_become
theorem q14_18 (r0 : Int) (r1 : Int) (x2 : Int) (M : zM) (X : zX) : zex 14 18 [] [(2, r0), (2, r1), (0, x2)] M X = zg (zkd X r0 = (7, 0) ∧ 0 < (M r0 2)) (zg (zkd X r1 = (7, 0) ∧ 0 < (M r1 2)) (zg ((zkd X (M r1 2)).1 = 0 ∧ 0 ≤ x2 ∧ x2 < ((zkd X (M r1 2)).2 : Int)) (zg ((zkd X (M r0 2)).1 = 0 ∧ 0 ≤ x2 ∧ x2 < ((zkd X (M r0 2)).2 : Int)) (zex 14 26 [] [(2, r0), (2, r1), (0, x2)] (zu M (M r0 2) x2 (M (M r1 2) x2)) X)))) :=
  (zblk 14 zc14 rfl [4, 6, 18, 26, 34] 38 18 _ _ _ _).trans rfl
-- yX1_become
theorem q14_26 (r0 : Int) (r1 : Int) (x2 : Int) (M : zM) (X : zX) : zex 14 26 [] [(2, r0), (2, r1), (0, x2)] M X = zg (zkd X r0 = (7, 0) ∧ 0 < (M r0 3)) (zg (zkd X r1 = (7, 0) ∧ 0 < (M r1 3)) (zg ((zkd X (M r1 3)).1 = 0 ∧ 0 ≤ x2 ∧ x2 < ((zkd X (M r1 3)).2 : Int)) (zg ((zkd X (M r0 3)).1 = 0 ∧ 0 ≤ x2 ∧ x2 < ((zkd X (M r0 3)).2 : Int)) (zex 14 34 [] [(2, r0), (2, r1), (0, x2)] (zu M (M r0 3) x2 (M (M r1 3) x2)) X)))) :=
  (zblk 14 zc14 rfl [4, 6, 18, 26, 34] 38 26 _ _ _ _).trans rfl
-- yX1_become
theorem q14_34 (r0 : Int) (r1 : Int) (x2 : Int) (M : zM) (X : zX) : zex 14 34 [] [(2, r0), (2, r1), (0, x2)] M X = zg (zI (x2 + (1 : Int))) (zex 14 6 [] [(2, r0), (2, r1), (0, (x2 + (1 : Int)))] M X) :=
  (zblk 14 zc14 rfl [4, 6, 18, 26, 34] 38 34 _ _ _ _).trans rfl
-- yX1_isLike
theorem q15_0 (r0 : Int) (r1 : Int) (d2 : zV) (M : zM) (X : zX) : zex 15 0 [] [(2, r0), (2, r1), d2] M X = zg (zkd X r0 = (7, 0)) (zg (zkd X r1 = (7, 0)) (if (M r0 0) = (M r1 0) then zex 15 9 [] [(2, r0), (2, r1), (0, (0 : Int))] M X else zg ((0 : Int) = 0 ∨ (0 : Int) = 1) (some ((0, (0 : Int)), M, X)))) :=
  (zblk 15 zc15 rfl [9, 40] 47 0 _ _ _ _).trans rfl
-- yX1_isLike
set_option maxRecDepth 20000 in
theorem q15_9 (r0 : Int) (r1 : Int) (x2 : Int) (M : zM) (X : zX) : zex 15 9 [] [(2, r0), (2, r1), (0, x2)] M X = zg (zkd X r0 = (7, 0)) (if (M r0 0) ≤ x2 then zg ((1 : Int) = 0 ∨ (1 : Int) = 1) (some ((0, (1 : Int)), M, X)) else zg (zkd X r0 = (7, 0) ∧ 0 < (M r0 1)) (zg ((zkd X (M r0 1)).1 = 0 ∧ 0 ≤ x2 ∧ x2 < ((zkd X (M r0 1)).2 : Int)) (zg (zkd X r1 = (7, 0) ∧ 0 < (M r1 1)) (zg ((zkd X (M r1 1)).1 = 0 ∧ 0 ≤ x2 ∧ x2 < ((zkd X (M r1 1)).2 : Int)) (if (M (M r0 1) x2) = (M (M r1 1) x2) then zg (zkd X r0 = (7, 0) ∧ 0 < (M r0 2)) (zg ((zkd X (M r0 2)).1 = 0 ∧ 0 ≤ x2 ∧ x2 < ((zkd X (M r0 2)).2 : Int)) (zg (zkd X r1 = (7, 0) ∧ 0 < (M r1 2)) (zg ((zkd X (M r1 2)).1 = 0 ∧ 0 ≤ x2 ∧ x2 < ((zkd X (M r1 2)).2 : Int)) (if (M (M r0 2) x2) = (M (M r1 2) x2) then zg (zkd X r0 = (7, 0) ∧ 0 < (M r0 3)) (zg ((zkd X (M r0 3)).1 = 0 ∧ 0 ≤ x2 ∧ x2 < ((zkd X (M r0 3)).2 : Int)) (zg (zkd X r1 = (7, 0) ∧ 0 < (M r1 3)) (zg ((zkd X (M r1 3)).1 = 0 ∧ 0 ≤ x2 ∧ x2 < ((zkd X (M r1 3)).2 : Int)) (if (M (M r0 3) x2) = (M (M r1 3) x2) then zg (zI (x2 + (1 : Int))) (zex 15 9 [] [(2, r0), (2, r1), (0, (x2 + (1 : Int)))] M X) else zex 15 40 [] [(2, r0), (2, r1), (0, x2)] M X)))) else zex 15 40 [] [(2, r0), (2, r1), (0, x2)] M X)))) else zex 15 40 [] [(2, r0), (2, r1), (0, x2)] M X))))) :=
  (zblk 15 zc15 rfl [9, 40] 47 9 _ _ _ _).trans rfl
-- yX1_isLike
theorem q15_40 (r0 : Int) (r1 : Int) (x2 : Int) (M : zM) (X : zX) : zex 15 40 [] [(2, r0), (2, r1), (0, x2)] M X = zg ((0 : Int) = 0 ∨ (0 : Int) = 1) (some ((0, (0 : Int)), M, X)) :=
  (zblk 15 zc15 rfl [9, 40] 47 40 _ _ _ _).trans rfl
-- yX2_init
theorem q16_0 (r0 : Int) (r1 : Int) (r2 : Int) (M : zM) (X : zX) : zex 16 0 [] [(2, r0), (2, r1), (2, r2)] M X = zg (0 ≤ (3 : Int) ∧ (3 : Int) ≤ 1024 ∧ 0 ≤ (12 : Int) ∧ (12 : Int) ≤ 1024 ∧ 1 + Int.toNat (3 : Int) ≤ X.2.1 ∧ Int.toNat (3 : Int) + Int.toNat (3 : Int) * Int.toNat (12 : Int) ≤ X.2.2) (zg (zkd (X.1 ++ (5, Int.toNat (3 : Int)) :: List.replicate (Int.toNat (3 : Int)) (0, Int.toNat (12 : Int)), X.2.1 - (1 + Int.toNat (3 : Int)), X.2.2 - (Int.toNat (3 : Int) + Int.toNat (3 : Int) * Int.toNat (12 : Int))) r0 = (8, 0)) (zex 16 7 [] [(2, r0), (2, r1), (2, r2)] (zu (zmul M ((X.1.length : Int) + 1) (3 : Int)) r0 3 ((X.1.length : Int) + 1)) (X.1 ++ (5, Int.toNat (3 : Int)) :: List.replicate (Int.toNat (3 : Int)) (0, Int.toNat (12 : Int)), X.2.1 - (1 + Int.toNat (3 : Int)), X.2.2 - (Int.toNat (3 : Int) + Int.toNat (3 : Int) * Int.toNat (12 : Int))))) :=
  (zblk 16 zc16 rfl [7, 11, 15, 19, 23, 27, 30, 33] 35 0 _ _ _ _).trans rfl
-- yX2_init
theorem q16_7 (r0 : Int) (r1 : Int) (r2 : Int) (M : zM) (X : zX) : zex 16 7 [] [(2, r0), (2, r1), (2, r2)] M X = zg (0 ≤ (6 : Int) ∧ (6 : Int) ≤ 65536 ∧ 1 ≤ X.2.1 ∧ Int.toNat (6 : Int) ≤ X.2.2) (zg (zkd (X.1 ++ [(0, Int.toNat (6 : Int))], X.2.1 - 1, X.2.2 - Int.toNat (6 : Int)) r0 = (8, 0)) (zex 16 11 [] [(2, r0), (2, r1), (2, r2)] (zu (zclr M ((X.1.length : Int) + 1)) r0 5 ((X.1.length : Int) + 1)) (X.1 ++ [(0, Int.toNat (6 : Int))], X.2.1 - 1, X.2.2 - Int.toNat (6 : Int)))) :=
  (zblk 16 zc16 rfl [7, 11, 15, 19, 23, 27, 30, 33] 35 7 _ _ _ _).trans rfl
-- yX2_init
theorem q16_11 (r0 : Int) (r1 : Int) (r2 : Int) (M : zM) (X : zX) : zex 16 11 [] [(2, r0), (2, r1), (2, r2)] M X = zg (0 ≤ (6 : Int) ∧ (6 : Int) ≤ 65536 ∧ 1 ≤ X.2.1 ∧ Int.toNat (6 : Int) ≤ X.2.2) (zg (zkd (X.1 ++ [(0, Int.toNat (6 : Int))], X.2.1 - 1, X.2.2 - Int.toNat (6 : Int)) r0 = (8, 0)) (zex 16 15 [] [(2, r0), (2, r1), (2, r2)] (zu (zclr M ((X.1.length : Int) + 1)) r0 6 ((X.1.length : Int) + 1)) (X.1 ++ [(0, Int.toNat (6 : Int))], X.2.1 - 1, X.2.2 - Int.toNat (6 : Int)))) :=
  (zblk 16 zc16 rfl [7, 11, 15, 19, 23, 27, 30, 33] 35 11 _ _ _ _).trans rfl
-- yX2_init
theorem q16_15 (r0 : Int) (r1 : Int) (r2 : Int) (M : zM) (X : zX) : zex 16 15 [] [(2, r0), (2, r1), (2, r2)] M X = zg (0 ≤ (117 : Int) ∧ (117 : Int) ≤ 65536 ∧ 1 ≤ X.2.1 ∧ Int.toNat (117 : Int) ≤ X.2.2) (zg (zkd (X.1 ++ [(0, Int.toNat (117 : Int))], X.2.1 - 1, X.2.2 - Int.toNat (117 : Int)) r0 = (8, 0)) (zex 16 19 [] [(2, r0), (2, r1), (2, r2)] (zu (zclr M ((X.1.length : Int) + 1)) r0 8 ((X.1.length : Int) + 1)) (X.1 ++ [(0, Int.toNat (117 : Int))], X.2.1 - 1, X.2.2 - Int.toNat (117 : Int)))) :=
  (zblk 16 zc16 rfl [7, 11, 15, 19, 23, 27, 30, 33] 35 15 _ _ _ _).trans rfl
-- yX2_init
theorem q16_19 (r0 : Int) (r1 : Int) (r2 : Int) (M : zM) (X : zX) : zex 16 19 [] [(2, r0), (2, r1), (2, r2)] M X = zg (0 ≤ (117 : Int) ∧ (117 : Int) ≤ 65536 ∧ 1 ≤ X.2.1 ∧ Int.toNat (117 : Int) ≤ X.2.2) (zg (zkd (X.1 ++ [(0, Int.toNat (117 : Int))], X.2.1 - 1, X.2.2 - Int.toNat (117 : Int)) r0 = (8, 0)) (zex 16 23 [] [(2, r0), (2, r1), (2, r2)] (zu (zclr M ((X.1.length : Int) + 1)) r0 9 ((X.1.length : Int) + 1)) (X.1 ++ [(0, Int.toNat (117 : Int))], X.2.1 - 1, X.2.2 - Int.toNat (117 : Int)))) :=
  (zblk 16 zc16 rfl [7, 11, 15, 19, 23, 27, 30, 33] 35 19 _ _ _ _).trans rfl
-- yX2_init
theorem q16_23 (r0 : Int) (r1 : Int) (r2 : Int) (M : zM) (X : zX) : zex 16 23 [] [(2, r0), (2, r1), (2, r2)] M X = zg (0 ≤ (729 : Int) ∧ (729 : Int) ≤ 65536 ∧ 1 ≤ X.2.1 ∧ Int.toNat (729 : Int) ≤ X.2.2) (zg (zkd (X.1 ++ [(0, Int.toNat (729 : Int))], X.2.1 - 1, X.2.2 - Int.toNat (729 : Int)) r0 = (8, 0)) (zex 16 27 [] [(2, r0), (2, r1), (2, r2)] (zu (zclr M ((X.1.length : Int) + 1)) r0 10 ((X.1.length : Int) + 1)) (X.1 ++ [(0, Int.toNat (729 : Int))], X.2.1 - 1, X.2.2 - Int.toNat (729 : Int)))) :=
  (zblk 16 zc16 rfl [7, 11, 15, 19, 23, 27, 30, 33] 35 23 _ _ _ _).trans rfl
-- yX2_init
theorem q16_27 (r0 : Int) (r1 : Int) (r2 : Int) (M : zM) (X : zX) : zex 16 27 [] [(2, r0), (2, r1), (2, r2)] M X = zg (zkd X r0 = (8, 0)) (zex 16 30 [] [(2, r0), (2, r1), (2, r2)] (zu M r0 0 r1) X) :=
  (zblk 16 zc16 rfl [7, 11, 15, 19, 23, 27, 30, 33] 35 27 _ _ _ _).trans rfl
-- yX2_init
theorem q16_30 (r0 : Int) (r1 : Int) (r2 : Int) (M : zM) (X : zX) : zex 16 30 [] [(2, r0), (2, r1), (2, r2)] M X = zg (zkd X r0 = (8, 0)) (zex 16 33 [] [(2, r0), (2, r1), (2, r2)] (zu M r0 1 r2) X) :=
  (zblk 16 zc16 rfl [7, 11, 15, 19, 23, 27, 30, 33] 35 30 _ _ _ _).trans rfl
-- yX2_init
theorem q16_33 (r0 : Int) (r1 : Int) (r2 : Int) (M : zM) (X : zX) : zex 16 33 [] [(2, r0), (2, r1), (2, r2)] M X = some ((9, 0), M, X) :=
  (zblk 16 zc16 rfl [7, 11, 15, 19, 23, 27, 30, 33] 35 33 _ _ _ _).trans rfl
-- yX2_addSpot
theorem q17_0 (r0 : Int) (x1 : Int) (x2 : Int) (x3 : Int) (d4 : zV) (d5 : zV) (M : zM) (X : zX) : zex 17 0 [] [(2, r0), (0, x1), (0, x2), (0, x3), d4, d5] M X = zg (zkd X r0 = (8, 0)) (if (M r0 2) < (12 : Int) then zg (zkd X r0 = (8, 0)) (zg (zkd X r0 = (8, 0)) (zg (zI ((M r0 2) - (1 : Int))) (zex 17 13 [] [(2, r0), (0, x1), (0, x2), (0, x3), (0, (M r0 2)), (0, ((M r0 2) - (1 : Int)))] M X))) else some ((9, 0), M, X)) :=
  (zblk 17 zc17 rfl [13, 50] 64 0 _ _ _ _).trans rfl
-- yX2_addSpot
set_option maxRecDepth 20000 in
theorem q17_13 (r0 : Int) (x1 : Int) (x2 : Int) (x3 : Int) (x4 : Int) (x5 : Int) (M : zM) (X : zX) : zex 17 13 [] [(2, r0), (0, x1), (0, x2), (0, x3), (0, x4), (0, x5)] M X = if x5 < 0 then zex 17 50 [] [(2, r0), (0, x1), (0, x2), (0, x3), (0, x4), (0, x5)] M X else zg (zkd X r0 = (8, 0) ∧ 0 < (M r0 3)) (zg ((zkd X (M r0 3)).1 = 5 ∧ 0 ≤ (0 : Int) ∧ (0 : Int) < ((zkd X (M r0 3)).2 : Int) ∧ 0 < (M (M r0 3) (0 : Int))) (zg ((zkd X (M (M r0 3) (0 : Int))).1 = 0 ∧ 0 ≤ x5 ∧ x5 < ((zkd X (M (M r0 3) (0 : Int))).2 : Int)) (if (M (M (M r0 3) (0 : Int)) x5) ≤ x1 then zex 17 50 [] [(2, r0), (0, x1), (0, x2), (0, x3), (0, x4), (0, x5)] M X else zg (zI (x5 + (1 : Int))) (zg (zkd X r0 = (8, 0) ∧ 0 < (M r0 3)) (zg ((zkd X (M r0 3)).1 = 5 ∧ 0 ≤ (0 : Int) ∧ (0 : Int) < ((zkd X (M r0 3)).2 : Int) ∧ 0 < (M (M r0 3) (0 : Int))) (zg ((zkd X (M (M r0 3) (0 : Int))).1 = 0 ∧ 0 ≤ x5 ∧ x5 < ((zkd X (M (M r0 3) (0 : Int))).2 : Int)) (zg (zkd X r0 = (8, 0) ∧ 0 < (M r0 3)) (zg ((zkd X (M r0 3)).1 = 5 ∧ 0 ≤ (1 : Int) ∧ (1 : Int) < ((zkd X (M r0 3)).2 : Int) ∧ 0 < (M (M r0 3) (1 : Int))) (zg ((zkd X (M (M r0 3) (1 : Int))).1 = 0 ∧ 0 ≤ x5 ∧ x5 < ((zkd X (M (M r0 3) (1 : Int))).2 : Int)) (zg (zkd X r0 = (8, 0) ∧ 0 < (M r0 3)) (zg ((zkd X (M r0 3)).1 = 5 ∧ 0 ≤ (2 : Int) ∧ (2 : Int) < ((zkd X (M r0 3)).2 : Int) ∧ 0 < (M (M r0 3) (2 : Int))) (zg ((zkd X (M (M r0 3) (2 : Int))).1 = 0 ∧ 0 ≤ x5 ∧ x5 < ((zkd X (M (M r0 3) (2 : Int))).2 : Int)) (zg (zkd X r0 = (8, 0)) (zbN (zex 25 0 [] [(2, r0), (0, (x5 + (1 : Int))), (0, (M (M (M r0 3) (0 : Int)) x5)), (0, (M (M (M r0 3) (1 : Int)) x5)), (0, (M (M (M r0 3) (2 : Int)) x5))] M X) (fun M1 X1 => zg (zI (x5 + (-1 : Int))) (zex 17 13 [] [(2, r0), (0, x1), (0, x2), (0, x3), (0, x5), (0, (x5 + (-1 : Int)))] M1 X1)))))))))))))))) :=
  (zblk 17 zc17 rfl [13, 50] 64 13 _ _ _ _).trans rfl
-- yX2_addSpot
theorem q17_50 (r0 : Int) (x1 : Int) (x2 : Int) (x3 : Int) (x4 : Int) (x5 : Int) (M : zM) (X : zX) : zex 17 50 [] [(2, r0), (0, x1), (0, x2), (0, x3), (0, x4), (0, x5)] M X = zg (zkd X r0 = (8, 0)) (zbN (zex 25 0 [] [(2, r0), (0, x4), (0, x1), (0, x2), (0, x3)] M X) (fun M1 X1 => zg (zkd X1 r0 = (8, 0)) (zg (zI ((M1 r0 2) + (1 : Int))) (zg (zkd X1 r0 = (8, 0)) (some ((9, 0), (zu M1 r0 2 ((M1 r0 2) + (1 : Int))), X1)))))) :=
  (zblk 17 zc17 rfl [13, 50] 64 50 _ _ _ _).trans rfl
-- yX2_missedSpots
theorem q18_0 (r0 : Int) (d1 : zV) (d2 : zV) (M : zM) (X : zX) : zex 18 0 [] [(2, r0), d1, d2] M X = zg (zkd X r0 = (8, 0) ∧ 0 < (M r0 0)) (zg (zkd X (M r0 0) = (12, 0)) (zbN (zex 60 0 [] [(2, (M r0 0)), (9, 0)] M X) (fun M1 X1 => zg (zkd X1 r0 = (8, 0) ∧ 0 < (M1 r0 0)) (zg (zkd X1 (M1 r0 0) = (12, 0)) (zbN (zex 61 0 [] [(2, (M1 r0 0)), (9, 0)] M1 X1) (fun M2 X2 => zex 18 10 [] [(2, r0), (0, (0 : Int)), (0, (0 : Int))] M2 X2)))))) :=
  (zblk 18 zc18 rfl [10, 19] 24 0 _ _ _ _).trans rfl
-- yX2_missedSpots
theorem q18_10 (r0 : Int) (x1 : Int) (x2 : Int) (M : zM) (X : zX) : zex 18 10 [] [(2, r0), (0, x1), (0, x2)] M X = zg (zkd X r0 = (8, 0)) (if (M r0 2) ≤ x2 then some ((0, x1), M, X) else zg (zkd X r0 = (8, 0)) (zbI (zex 27 0 [] [(2, r0), (0, x2)] M X) (fun v1 M1 X1 => if v1 = 0 then zg (zI (x1 + (1 : Int))) (zex 18 19 [] [(2, r0), (0, (x1 + (1 : Int))), (0, x2)] M1 X1) else zex 18 19 [] [(2, r0), (0, x1), (0, x2)] M1 X1))) :=
  (zblk 18 zc18 rfl [10, 19] 24 10 _ _ _ _).trans rfl
-- yX2_missedSpots
theorem q18_19 (r0 : Int) (x1 : Int) (x2 : Int) (M : zM) (X : zX) : zex 18 19 [] [(2, r0), (0, x1), (0, x2)] M X = zg (zI (x2 + (1 : Int))) (zex 18 10 [] [(2, r0), (0, x1), (0, (x2 + (1 : Int)))] M X) :=
  (zblk 18 zc18 rfl [10, 19] 24 19 _ _ _ _).trans rfl
-- yX2_foundAt
theorem q19_0 (r0 : Int) (x1 : Int) (M : zM) (X : zX) : zex 19 0 [] [(2, r0), (0, x1)] M X = if x1 < 0 then zex 19 11 [] [(2, r0), (0, x1)] M X else zg (zkd X r0 = (8, 0)) (if (M r0 11) ≤ x1 then zex 19 11 [] [(2, r0), (0, x1)] M X else zg (zkd X r0 = (8, 0) ∧ 0 < (M r0 10)) (zg ((zkd X (M r0 10)).1 = 0 ∧ 0 ≤ x1 ∧ x1 < ((zkd X (M r0 10)).2 : Int)) (zex 19 12 [(0, (M (M r0 10) x1))] [(2, r0), (0, x1)] M X))) :=
  (zblk 19 zc19 rfl [11, 12] 14 0 _ _ _ _).trans rfl
-- yX2_foundAt
theorem q19_11 (r0 : Int) (x1 : Int) (M : zM) (X : zX) : zex 19 11 [] [(2, r0), (0, x1)] M X = zex 19 12 [(0, (-1 : Int))] [(2, r0), (0, x1)] M X :=
  (zblk 19 zc19 rfl [11, 12] 14 11 _ _ _ _).trans rfl
-- yX2_foundAt
theorem q19_12 (s0 : Int) (r0 : Int) (x1 : Int) (M : zM) (X : zX) : zex 19 12 [(0, s0)] [(2, r0), (0, x1)] M X = some ((0, s0), M, X) :=
  (zblk 19 zc19 rfl [11, 12] 14 12 _ _ _ _).trans rfl
-- yX2_fillingsOf
theorem q20_0 (x0 : Int) (d1 : zV) (d2 : zV) (d3 : zV) (M : zM) (X : zX) : zex 20 0 [] [(0, x0), d1, d2, d3] M X = zex 20 4 [] [(0, x0), (1, (1 : Int)), (9, 0), (0, (0 : Int))] M X :=
  (zblk 20 zc20 rfl [4, 16] 19 0 _ _ _ _).trans rfl
-- yX2_fillingsOf
theorem q20_4 (x0 : Int) (x1 : Int) (x3 : Int) (M : zM) (X : zX) : zex 20 4 [] [(0, x0), (1, x1), (9, 0), (0, x3)] M X = if x0 ≤ x3 then zex 20 16 [] [(0, x0), (1, x1), (9, 0), (0, x3)] M X else if (20 : Int) ≤ x3 then zex 20 16 [] [(0, x0), (1, x1), (9, 0), (0, x3)] M X else zg (zL (x1 * (3 : Int))) (zg (zI (x3 + (1 : Int))) (zex 20 4 [] [(0, x0), (1, (x1 * (3 : Int))), (9, 0), (0, (x3 + (1 : Int)))] M X)) :=
  (zblk 20 zc20 rfl [4, 16] 19 4 _ _ _ _).trans rfl
-- yX2_fillingsOf
theorem q20_16 (x0 : Int) (x1 : Int) (x3 : Int) (M : zM) (X : zX) : zex 20 16 [] [(0, x0), (1, x1), (9, 0), (0, x3)] M X = some ((1, x1), M, X) :=
  (zblk 20 zc20 rfl [4, 16] 19 16 _ _ _ _).trans rfl
-- yX2_findFillings
theorem q21_0 (r0 : Int) (d1 : zV) (d2 : zV) (d3 : zV) (d4 : zV) (d5 : zV) (M : zM) (X : zX) : zex 21 0 [] [(2, r0), d1, d2, d3, d4, d5] M X = zg (zkd X r0 = (8, 0)) (zbN (zex 29 0 [] [(2, r0), (9, 0), (9, 0), (9, 0)] M X) (fun M1 X1 => zg (zkd X1 r0 = (8, 0) ∧ 0 < (M1 r0 0)) (zg (zkd X1 (M1 r0 0) = (12, 0)) (zbN (zex 60 0 [] [(2, (M1 r0 0)), (9, 0)] M1 X1) (fun M2 X2 => zg (zkd X2 r0 = (8, 0)) (zg (zkd X2 r0 = (8, 0)) (zbL (zex 20 0 [] [(0, ((zu M2 r0 11 (0 : Int)) r0 4)), (9, 0), (9, 0), (9, 0)] (zu M2 r0 11 (0 : Int)) X2) (fun v3 M3 X3 => zex 21 14 [] [(2, r0), (1, v3), (9, 0), (0, (0 : Int)), d4, d5] M3 X3)))))))) :=
  (zblk 21 zc21 rfl [14, 27, 59, 61] 63 0 _ _ _ _).trans rfl
-- yX2_findFillings
theorem q21_14 (r0 : Int) (x1 : Int) (x3 : Int) (d4 : zV) (d5 : zV) (M : zM) (X : zX) : zex 21 14 [] [(2, r0), (1, x1), (9, 0), (0, x3), d4, d5] M X = if 0 ≤ (zcmp x3 x1) then zex 21 61 [] [(2, r0), (1, x1), (9, 0), (0, x3), d4, d5] M X else zg (zkd X r0 = (8, 0)) (if (729 : Int) ≤ (M r0 11) then zex 21 61 [] [(2, r0), (1, x1), (9, 0), (0, x3), d4, d5] M X else zex 21 27 [] [(2, r0), (1, x1), (9, 0), (0, x3), (0, x3), (0, (0 : Int))] M X) :=
  (zblk 21 zc21 rfl [14, 27, 59, 61] 63 14 _ _ _ _).trans rfl
-- yX2_findFillings
set_option maxRecDepth 20000 in
theorem q21_27 (r0 : Int) (x1 : Int) (x3 : Int) (x4 : Int) (x5 : Int) (M : zM) (X : zX) : zex 21 27 [] [(2, r0), (1, x1), (9, 0), (0, x3), (0, x4), (0, x5)] M X = zg (zkd X r0 = (8, 0)) (if (M r0 4) ≤ x5 then zg (zkd X r0 = (8, 0)) (zbI (zex 26 0 [] [(2, r0), (9, 0)] M X) (fun v1 M1 X1 => if v1 = 0 then zex 21 59 [] [(2, r0), (1, x1), (9, 0), (0, x3), (0, x4), (0, x5)] M1 X1 else zg (zkd X1 r0 = (8, 0)) (zbN (zex 28 0 [] [(2, r0), (0, x3)] M1 X1) (fun M2 X2 => zex 21 59 [] [(2, r0), (1, x1), (9, 0), (0, x3), (0, x4), (0, x5)] M2 X2)))) else zg (zkd X r0 = (8, 0) ∧ 0 < (M r0 0)) (zg (zkd X (M r0 0) = (12, 0) ∧ 0 < (M (M r0 0) 3)) (zg (zkd X r0 = (8, 0) ∧ 0 < (M r0 5)) (zg ((zkd X (M r0 5)).1 = 0 ∧ 0 ≤ x5 ∧ x5 < ((zkd X (M r0 5)).2 : Int)) (zg ((zkd X (M (M r0 0) 3)).1 = 5 ∧ 0 ≤ (M (M r0 5) x5) ∧ (M (M r0 5) x5) < ((zkd X (M (M r0 0) 3)).2 : Int) ∧ 0 < (M (M (M r0 0) 3) (M (M r0 5) x5))) (zg (zkd X r0 = (8, 0) ∧ 0 < (M r0 6)) (zg ((zkd X (M r0 6)).1 = 0 ∧ 0 ≤ x5 ∧ x5 < ((zkd X (M r0 6)).2 : Int)) (zg (0 < (3 : Int)) (zg ((zkd X (M (M (M r0 0) 3) (M (M r0 5) x5))).1 = 0 ∧ 0 ≤ (M (M r0 6) x5) ∧ (M (M r0 6) x5) < ((zkd X (M (M (M r0 0) 3) (M (M r0 5) x5))).2 : Int)) (zg (0 < (3 : Int)) (zg (zI (x5 + (1 : Int))) (zex 21 27 [] [(2, r0), (1, x1), (9, 0), (0, x3), (0, (Int.tdiv x4 (3 : Int))), (0, (x5 + (1 : Int)))] (zu M (M (M (M r0 0) 3) (M (M r0 5) x5)) (M (M r0 6) x5) (Int.tmod x4 (3 : Int))) X)))))))))))) :=
  (zblk 21 zc21 rfl [14, 27, 59, 61] 63 27 _ _ _ _).trans rfl
-- yX2_findFillings
theorem q21_59 (r0 : Int) (x1 : Int) (x3 : Int) (x4 : Int) (x5 : Int) (M : zM) (X : zX) : zex 21 59 [] [(2, r0), (1, x1), (9, 0), (0, x3), (0, x4), (0, x5)] M X = zg (zI (x3 + (1 : Int))) (zex 21 14 [] [(2, r0), (1, x1), (9, 0), (0, (x3 + (1 : Int))), (0, x4), (0, x5)] M X) :=
  (zblk 21 zc21 rfl [14, 27, 59, 61] 63 59 _ _ _ _).trans rfl
-- yX2_findFillings
theorem q21_61 (r0 : Int) (x1 : Int) (x3 : Int) (d4 : zV) (d5 : zV) (M : zM) (X : zX) : zex 21 61 [] [(2, r0), (1, x1), (9, 0), (0, x3), d4, d5] M X = some ((9, 0), M, X) :=
  (zblk 21 zc21 rfl [14, 27, 59, 61] 63 61 _ _ _ _).trans rfl
-- yX2_fillCords
theorem q22_0 (r0 : Int) (x1 : Int) (d2 : zV) (d3 : zV) (M : zM) (X : zX) : zex 22 0 [] [(2, r0), (0, x1), d2, d3] M X = zg (zkd X r0 = (8, 0)) (zbN (zex 29 0 [] [(2, r0), (9, 0), (9, 0), (9, 0)] M X) (fun M1 X1 => zex 22 6 [] [(2, r0), (0, x1), (0, x1), (0, (0 : Int))] M1 X1)) :=
  (zblk 22 zc22 rfl [6] 36 0 _ _ _ _).trans rfl
-- yX2_fillCords
set_option maxRecDepth 20000 in
theorem q22_6 (r0 : Int) (x1 : Int) (x2 : Int) (x3 : Int) (M : zM) (X : zX) : zex 22 6 [] [(2, r0), (0, x1), (0, x2), (0, x3)] M X = zg (zkd X r0 = (8, 0)) (if (M r0 4) ≤ x3 then some ((9, 0), M, X) else zg (zkd X r0 = (8, 0) ∧ 0 < (M r0 0)) (zg (zkd X (M r0 0) = (12, 0) ∧ 0 < (M (M r0 0) 0)) (zg (zkd X (M (M r0 0) 0) = (6, 0) ∧ 0 < (M (M (M r0 0) 0) 0)) (zg (zkd X r0 = (8, 0) ∧ 0 < (M r0 5)) (zg ((zkd X (M r0 5)).1 = 0 ∧ 0 ≤ x3 ∧ x3 < ((zkd X (M r0 5)).2 : Int)) (zg ((zkd X (M (M (M r0 0) 0) 0)).1 = 3 ∧ 0 ≤ (M (M r0 5) x3) ∧ (M (M r0 5) x3) < ((zkd X (M (M (M r0 0) 0) 0)).2 : Int) ∧ 0 < (M (M (M (M r0 0) 0) 0) (M (M r0 5) x3))) (zg (zkd X (M (M (M (M r0 0) 0) 0) (M (M r0 5) x3)) = (7, 0) ∧ 0 < (M (M (M (M (M r0 0) 0) 0) (M (M r0 5) x3)) 1)) (zg (zkd X r0 = (8, 0) ∧ 0 < (M r0 6)) (zg ((zkd X (M r0 6)).1 = 0 ∧ 0 ≤ x3 ∧ x3 < ((zkd X (M r0 6)).2 : Int)) (zg (0 < (3 : Int)) (zg ((zkd X (M (M (M (M (M r0 0) 0) 0) (M (M r0 5) x3)) 1)).1 = 0 ∧ 0 ≤ (M (M r0 6) x3) ∧ (M (M r0 6) x3) < ((zkd X (M (M (M (M (M r0 0) 0) 0) (M (M r0 5) x3)) 1)).2 : Int)) (zg (0 < (3 : Int)) (zg (zI (x3 + (1 : Int))) (zex 22 6 [] [(2, r0), (0, x1), (0, (Int.tdiv x2 (3 : Int))), (0, (x3 + (1 : Int)))] (zu M (M (M (M (M (M r0 0) 0) 0) (M (M r0 5) x3)) 1) (M (M r0 6) x3) (Int.tmod x2 (3 : Int))) X)))))))))))))) :=
  (zblk 22 zc22 rfl [6] 36 6 _ _ _ _).trans rfl
-- yX2_findSlips
theorem q23_0 (r0 : Int) (d1 : zV) (M : zM) (X : zX) : zex 23 0 [] [(2, r0), d1] M X = zg (zkd X r0 = (8, 0)) (zbN (zex 30 0 [] [(2, r0), (9, 0), (9, 0), (9, 0)] M X) (fun M1 X1 => zg (zkd X1 r0 = (8, 0) ∧ 0 < (M1 r0 0)) (zg (zkd X1 (M1 r0 0) = (12, 0)) (zbN (zex 60 0 [] [(2, (M1 r0 0)), (9, 0)] M1 X1) (fun M2 X2 => zg (zkd X2 r0 = (8, 0)) (zex 23 10 [] [(2, r0), (0, (0 : Int))] (zu M2 r0 11 (0 : Int)) X2)))))) :=
  (zblk 23 zc23 rfl [10, 33] 40 0 _ _ _ _).trans rfl
-- yX2_findSlips
theorem q23_10 (r0 : Int) (x1 : Int) (M : zM) (X : zX) : zex 23 10 [] [(2, r0), (0, x1)] M X = zg (zkd X r0 = (8, 0)) (if (M r0 7) ≤ x1 then some ((9, 0), M, X) else zg (zkd X r0 = (8, 0)) (zbN (zex 31 0 [] [(2, r0), (0, x1)] M X) (fun M1 X1 => zg (zkd X1 r0 = (8, 0)) (zbI (zex 26 0 [] [(2, r0), (9, 0)] M1 X1) (fun v2 M2 X2 => if v2 = 0 then zex 23 33 [] [(2, r0), (0, x1)] M2 X2 else zg (zkd X2 r0 = (8, 0) ∧ 0 < (M2 r0 8)) (zg ((zkd X2 (M2 r0 8)).1 = 0 ∧ 0 ≤ x1 ∧ x1 < ((zkd X2 (M2 r0 8)).2 : Int)) (zg (zI ((100 : Int) * (M2 (M2 r0 8) x1))) (zg (zkd X2 r0 = (8, 0) ∧ 0 < (M2 r0 9)) (zg ((zkd X2 (M2 r0 9)).1 = 0 ∧ 0 ≤ x1 ∧ x1 < ((zkd X2 (M2 r0 9)).2 : Int)) (zg (zI (((100 : Int) * (M2 (M2 r0 8) x1)) + (M2 (M2 r0 9) x1))) (zg (zkd X2 r0 = (8, 0)) (zbN (zex 28 0 [] [(2, r0), (0, (((100 : Int) * (M2 (M2 r0 8) x1)) + (M2 (M2 r0 9) x1)))] M2 X2) (fun M3 X3 => zex 23 33 [] [(2, r0), (0, x1)] M3 X3))))))))))))) :=
  (zblk 23 zc23 rfl [10, 33] 40 10 _ _ _ _).trans rfl
-- yX2_findSlips
theorem q23_33 (r0 : Int) (x1 : Int) (M : zM) (X : zX) : zex 23 33 [] [(2, r0), (0, x1)] M X = zg (zkd X r0 = (8, 0)) (zbN (zex 32 0 [] [(2, r0), (0, x1), (9, 0), (9, 0)] M X) (fun M1 X1 => zg (zI (x1 + (1 : Int))) (zex 23 10 [] [(2, r0), (0, (x1 + (1 : Int)))] M1 X1))) :=
  (zblk 23 zc23 rfl [10, 33] 40 33 _ _ _ _).trans rfl
-- yX2_firstPair
theorem q24_0 (r0 : Int) (d1 : zV) (d2 : zV) (M : zM) (X : zX) : zex 24 0 [] [(2, r0), d1, d2] M X = zg (zkd X r0 = (8, 0)) (zbN (zex 30 0 [] [(2, r0), (9, 0), (9, 0), (9, 0)] M X) (fun M1 X1 => zg (zkd X1 r0 = (8, 0) ∧ 0 < (M1 r0 0)) (zg (zkd X1 (M1 r0 0) = (12, 0)) (zbN (zex 60 0 [] [(2, (M1 r0 0)), (9, 0)] M1 X1) (fun M2 X2 => zex 24 7 [] [(2, r0), (0, (0 : Int)), d2] M2 X2))))) :=
  (zblk 24 zc24 rfl [7, 18] 47 0 _ _ _ _).trans rfl
-- yX2_firstPair
theorem q24_7 (r0 : Int) (x1 : Int) (d2 : zV) (M : zM) (X : zX) : zex 24 7 [] [(2, r0), (0, x1), d2] M X = zg (zkd X r0 = (8, 0)) (if (M r0 7) ≤ x1 then some ((0, (-1 : Int)), M, X) else zg (zkd X r0 = (8, 0)) (zbN (zex 31 0 [] [(2, r0), (0, x1)] M X) (fun M1 X1 => zg (zI (x1 + (1 : Int))) (zex 24 18 [] [(2, r0), (0, x1), (0, (x1 + (1 : Int)))] M1 X1)))) :=
  (zblk 24 zc24 rfl [7, 18] 47 7 _ _ _ _).trans rfl
-- yX2_firstPair
theorem q24_18 (r0 : Int) (x1 : Int) (x2 : Int) (M : zM) (X : zX) : zex 24 18 [] [(2, r0), (0, x1), (0, x2)] M X = zg (zkd X r0 = (8, 0)) (if (M r0 7) ≤ x2 then zg (zkd X r0 = (8, 0)) (zbN (zex 32 0 [] [(2, r0), (0, x1), (9, 0), (9, 0)] M X) (fun M1 X1 => zg (zI (x1 + (1 : Int))) (zex 24 7 [] [(2, r0), (0, (x1 + (1 : Int))), (0, x2)] M1 X1))) else zg (zkd X r0 = (8, 0)) (zbN (zex 31 0 [] [(2, r0), (0, x2)] M X) (fun M2 X2 => zg (zkd X2 r0 = (8, 0)) (zbI (zex 26 0 [] [(2, r0), (9, 0)] M2 X2) (fun v3 M3 X3 => if v3 = 0 then zg (zkd X3 r0 = (8, 0)) (zbN (zex 32 0 [] [(2, r0), (0, x2), (9, 0), (9, 0)] M3 X3) (fun M4 X4 => zg (zI (x2 + (1 : Int))) (zex 24 18 [] [(2, r0), (0, x1), (0, (x2 + (1 : Int)))] M4 X4))) else zg (zI ((1000 : Int) * x1)) (zg (zI (((1000 : Int) * x1) + x2)) (some ((0, (((1000 : Int) * x1) + x2)), M3, X3)))))))) :=
  (zblk 24 zc24 rfl [7, 18] 47 18 _ _ _ _).trans rfl
-- yX2_setSpot
theorem q25_0 (r0 : Int) (x1 : Int) (x2 : Int) (x3 : Int) (x4 : Int) (M : zM) (X : zX) : zex 25 0 [] [(2, r0), (0, x1), (0, x2), (0, x3), (0, x4)] M X = if x1 < 0 then zex 25 26 [] [(2, r0), (0, x1), (0, x2), (0, x3), (0, x4)] M X else if (12 : Int) ≤ x1 then zex 25 26 [] [(2, r0), (0, x1), (0, x2), (0, x3), (0, x4)] M X else zg (zkd X r0 = (8, 0) ∧ 0 < (M r0 3)) (zg ((zkd X (M r0 3)).1 = 5 ∧ 0 ≤ (0 : Int) ∧ (0 : Int) < ((zkd X (M r0 3)).2 : Int) ∧ 0 < (M (M r0 3) (0 : Int))) (zg ((zkd X (M (M r0 3) (0 : Int))).1 = 0 ∧ 0 ≤ x1 ∧ x1 < ((zkd X (M (M r0 3) (0 : Int))).2 : Int)) (zex 25 12 [] [(2, r0), (0, x1), (0, x2), (0, x3), (0, x4)] (zu M (M (M r0 3) (0 : Int)) x1 x2) X))) :=
  (zblk 25 zc25 rfl [12, 19, 26] 28 0 _ _ _ _).trans rfl
-- yX2_setSpot
theorem q25_12 (r0 : Int) (x1 : Int) (x2 : Int) (x3 : Int) (x4 : Int) (M : zM) (X : zX) : zex 25 12 [] [(2, r0), (0, x1), (0, x2), (0, x3), (0, x4)] M X = zg (zkd X r0 = (8, 0) ∧ 0 < (M r0 3)) (zg ((zkd X (M r0 3)).1 = 5 ∧ 0 ≤ (1 : Int) ∧ (1 : Int) < ((zkd X (M r0 3)).2 : Int) ∧ 0 < (M (M r0 3) (1 : Int))) (zg ((zkd X (M (M r0 3) (1 : Int))).1 = 0 ∧ 0 ≤ x1 ∧ x1 < ((zkd X (M (M r0 3) (1 : Int))).2 : Int)) (zex 25 19 [] [(2, r0), (0, x1), (0, x2), (0, x3), (0, x4)] (zu M (M (M r0 3) (1 : Int)) x1 x3) X))) :=
  (zblk 25 zc25 rfl [12, 19, 26] 28 12 _ _ _ _).trans rfl
-- yX2_setSpot
theorem q25_19 (r0 : Int) (x1 : Int) (x2 : Int) (x3 : Int) (x4 : Int) (M : zM) (X : zX) : zex 25 19 [] [(2, r0), (0, x1), (0, x2), (0, x3), (0, x4)] M X = zg (zkd X r0 = (8, 0) ∧ 0 < (M r0 3)) (zg ((zkd X (M r0 3)).1 = 5 ∧ 0 ≤ (2 : Int) ∧ (2 : Int) < ((zkd X (M r0 3)).2 : Int) ∧ 0 < (M (M r0 3) (2 : Int))) (zg ((zkd X (M (M r0 3) (2 : Int))).1 = 0 ∧ 0 ≤ x1 ∧ x1 < ((zkd X (M (M r0 3) (2 : Int))).2 : Int)) (zex 25 26 [] [(2, r0), (0, x1), (0, x2), (0, x3), (0, x4)] (zu M (M (M r0 3) (2 : Int)) x1 x4) X))) :=
  (zblk 25 zc25 rfl [12, 19, 26] 28 19 _ _ _ _).trans rfl
-- yX2_setSpot
theorem q25_26 (r0 : Int) (x1 : Int) (x2 : Int) (x3 : Int) (x4 : Int) (M : zM) (X : zX) : zex 25 26 [] [(2, r0), (0, x1), (0, x2), (0, x3), (0, x4)] M X = some ((9, 0), M, X) :=
  (zblk 25 zc25 rfl [12, 19, 26] 28 26 _ _ _ _).trans rfl
-- yX2_agrees
theorem q26_0 (r0 : Int) (d1 : zV) (M : zM) (X : zX) : zex 26 0 [] [(2, r0), d1] M X = zg (zkd X r0 = (8, 0) ∧ 0 < (M r0 0)) (zg (zkd X (M r0 0) = (12, 0)) (zbN (zex 61 0 [] [(2, (M r0 0)), (9, 0)] M X) (fun M1 X1 => zex 26 5 [] [(2, r0), (0, (0 : Int))] M1 X1))) :=
  (zblk 26 zc26 rfl [5] 20 0 _ _ _ _).trans rfl
-- yX2_agrees
theorem q26_5 (r0 : Int) (x1 : Int) (M : zM) (X : zX) : zex 26 5 [] [(2, r0), (0, x1)] M X = zg (zkd X r0 = (8, 0)) (if (M r0 2) ≤ x1 then zg ((1 : Int) = 0 ∨ (1 : Int) = 1) (some ((0, (1 : Int)), M, X)) else zg (zkd X r0 = (8, 0)) (zbI (zex 27 0 [] [(2, r0), (0, x1)] M X) (fun v1 M1 X1 => if v1 = 0 then zg ((0 : Int) = 0 ∨ (0 : Int) = 1) (some ((0, (0 : Int)), M1, X1)) else zg (zI (x1 + (1 : Int))) (zex 26 5 [] [(2, r0), (0, (x1 + (1 : Int)))] M1 X1)))) :=
  (zblk 26 zc26 rfl [5] 20 5 _ _ _ _).trans rfl
-- yX2_comesTo
set_option maxRecDepth 20000 in
theorem q27_0 (r0 : Int) (x1 : Int) (M : zM) (X : zX) : zex 27 0 [] [(2, r0), (0, x1)] M X = zg (zkd X r0 = (8, 0) ∧ 0 < (M r0 0)) (zg (zkd X r0 = (8, 0) ∧ 0 < (M r0 3)) (zg ((zkd X (M r0 3)).1 = 5 ∧ 0 ≤ (0 : Int) ∧ (0 : Int) < ((zkd X (M r0 3)).2 : Int) ∧ 0 < (M (M r0 3) (0 : Int))) (zg ((zkd X (M (M r0 3) (0 : Int))).1 = 0 ∧ 0 ≤ x1 ∧ x1 < ((zkd X (M (M r0 3) (0 : Int))).2 : Int)) (zg (zkd X r0 = (8, 0) ∧ 0 < (M r0 1)) (zg (zkd X (M r0 1) = (15, 0)) (zbI (zex 221 0 [] [(0, (M (M (M r0 3) (0 : Int)) x1)), (0, (M (M r0 1) 3))] M X) (fun v1 M1 X1 => zg (zkd X1 (M r0 0) = (12, 0)) (zbN (zex 64 0 [] [(2, (M r0 0)), (0, v1), (9, 0)] M1 X1) (fun M2 X2 => zg (zkd X2 r0 = (8, 0) ∧ 0 < (M2 r0 0)) (zg (zkd X2 (M2 r0 0) = (12, 0) ∧ 0 < (M2 (M2 r0 0) 2)) (zg (zkd X2 (M2 (M2 r0 0) 2) = (11, 0)) (zbI (zex 53 0 [] [(2, (M2 (M2 r0 0) 2))] M2 X2) (fun v3 M3 X3 => zg (zkd X3 r0 = (8, 0) ∧ 0 < (M3 r0 3)) (zg ((zkd X3 (M3 r0 3)).1 = 5 ∧ 0 ≤ (1 : Int) ∧ (1 : Int) < ((zkd X3 (M3 r0 3)).2 : Int) ∧ 0 < (M3 (M3 r0 3) (1 : Int))) (zg ((zkd X3 (M3 (M3 r0 3) (1 : Int))).1 = 0 ∧ 0 ≤ x1 ∧ x1 < ((zkd X3 (M3 (M3 r0 3) (1 : Int))).2 : Int)) (if v3 = (M3 (M3 (M3 r0 3) (1 : Int)) x1) then zg (zkd X3 r0 = (8, 0) ∧ 0 < (M3 r0 0)) (zg (zkd X3 (M3 r0 0) = (12, 0) ∧ 0 < (M3 (M3 r0 0) 2)) (zg (zkd X3 (M3 (M3 r0 0) 2) = (11, 0)) (zbI (zex 54 0 [] [(2, (M3 (M3 r0 0) 2))] M3 X3) (fun v4 M4 X4 => zg (zkd X4 r0 = (8, 0) ∧ 0 < (M4 r0 3)) (zg ((zkd X4 (M4 r0 3)).1 = 5 ∧ 0 ≤ (2 : Int) ∧ (2 : Int) < ((zkd X4 (M4 r0 3)).2 : Int) ∧ 0 < (M4 (M4 r0 3) (2 : Int))) (zg ((zkd X4 (M4 (M4 r0 3) (2 : Int))).1 = 0 ∧ 0 ≤ x1 ∧ x1 < ((zkd X4 (M4 (M4 r0 3) (2 : Int))).2 : Int)) (if v4 = (M4 (M4 (M4 r0 3) (2 : Int)) x1) then zex 27 38 [(0, (1 : Int))] [(2, r0), (0, x1)] M4 X4 else zex 27 37 [] [(2, r0), (0, x1)] M4 X4))))))) else zex 27 37 [] [(2, r0), (0, x1)] M3 X3)))))))))))))))) :=
  (zblk 27 zc27 rfl [37, 38] 40 0 _ _ _ _).trans rfl
-- yX2_comesTo
theorem q27_37 (r0 : Int) (x1 : Int) (M : zM) (X : zX) : zex 27 37 [] [(2, r0), (0, x1)] M X = zex 27 38 [(0, (0 : Int))] [(2, r0), (0, x1)] M X :=
  (zblk 27 zc27 rfl [37, 38] 40 37 _ _ _ _).trans rfl
-- yX2_comesTo
theorem q27_38 (s0 : Int) (r0 : Int) (x1 : Int) (M : zM) (X : zX) : zex 27 38 [(0, s0)] [(2, r0), (0, x1)] M X = zg (s0 = 0 ∨ s0 = 1) (some ((0, s0), M, X)) :=
  (zblk 27 zc27 rfl [37, 38] 40 38 _ _ _ _).trans rfl
-- yX2_addFound
theorem q28_0 (r0 : Int) (x1 : Int) (M : zM) (X : zX) : zex 28 0 [] [(2, r0), (0, x1)] M X = zg (zkd X r0 = (8, 0)) (if (729 : Int) ≤ (M r0 11) then zex 28 16 [] [(2, r0), (0, x1)] M X else zg (zkd X r0 = (8, 0) ∧ 0 < (M r0 10)) (zg (zkd X r0 = (8, 0)) (zg ((zkd X (M r0 10)).1 = 0 ∧ 0 ≤ (M r0 11) ∧ (M r0 11) < ((zkd X (M r0 10)).2 : Int)) (zg (zkd X r0 = (8, 0)) (zg (zI (((zu M (M r0 10) (M r0 11) x1) r0 11) + (1 : Int))) (zg (zkd X r0 = (8, 0)) (zex 28 16 [] [(2, r0), (0, x1)] (zu (zu M (M r0 10) (M r0 11) x1) r0 11 (((zu M (M r0 10) (M r0 11) x1) r0 11) + (1 : Int))) X))))))) :=
  (zblk 28 zc28 rfl [16] 18 0 _ _ _ _).trans rfl
-- yX2_addFound
theorem q28_16 (r0 : Int) (x1 : Int) (M : zM) (X : zX) : zex 28 16 [] [(2, r0), (0, x1)] M X = some ((9, 0), M, X) :=
  (zblk 28 zc28 rfl [16] 18 16 _ _ _ _).trans rfl
-- yX2_listGaps
theorem q29_0 (r0 : Int) (d1 : zV) (d2 : zV) (d3 : zV) (M : zM) (X : zX) : zex 29 0 [] [(2, r0), d1, d2, d3] M X = zg (zkd X r0 = (8, 0)) (zex 29 3 [] [(2, r0), d1, d2, d3] (zu M r0 4 (0 : Int)) X) :=
  (zblk 29 zc29 rfl [3, 5, 17, 37, 43, 49, 51] 55 0 _ _ _ _).trans rfl
-- yX2_listGaps
theorem q29_3 (r0 : Int) (d1 : zV) (d2 : zV) (d3 : zV) (M : zM) (X : zX) : zex 29 3 [] [(2, r0), d1, d2, d3] M X = zex 29 5 [] [(2, r0), (0, (0 : Int)), d2, d3] M X :=
  (zblk 29 zc29 rfl [3, 5, 17, 37, 43, 49, 51] 55 3 _ _ _ _).trans rfl
-- yX2_listGaps
theorem q29_5 (r0 : Int) (x1 : Int) (d2 : zV) (d3 : zV) (M : zM) (X : zX) : zex 29 5 [] [(2, r0), (0, x1), d2, d3] M X = if (3 : Int) ≤ x1 then some ((9, 0), M, X) else zg (zkd X r0 = (8, 0) ∧ 0 < (M r0 0)) (zg (zkd X (M r0 0) = (12, 0) ∧ 0 < (M (M r0 0) 0)) (zg (zkd X (M (M r0 0) 0) = (6, 0) ∧ 0 < (M (M (M r0 0) 0) 0)) (zg ((zkd X (M (M (M r0 0) 0) 0)).1 = 3 ∧ 0 ≤ x1 ∧ x1 < ((zkd X (M (M (M r0 0) 0) 0)).2 : Int) ∧ 0 < (M (M (M (M r0 0) 0) 0) x1)) (zex 29 17 [] [(2, r0), (0, x1), (2, (M (M (M (M r0 0) 0) 0) x1)), (0, (0 : Int))] M X)))) :=
  (zblk 29 zc29 rfl [3, 5, 17, 37, 43, 49, 51] 55 5 _ _ _ _).trans rfl
-- yX2_listGaps
theorem q29_17 (r0 : Int) (x1 : Int) (r2 : Int) (x3 : Int) (M : zM) (X : zX) : zex 29 17 [] [(2, r0), (0, x1), (2, r2), (0, x3)] M X = zg (zkd X r2 = (7, 0)) (if (M r2 0) ≤ x3 then zex 29 51 [] [(2, r0), (0, x1), (2, r2), (0, x3)] M X else zg (zkd X r0 = (8, 0)) (if (6 : Int) ≤ (M r0 4) then zex 29 51 [] [(2, r0), (0, x1), (2, r2), (0, x3)] M X else zg (zkd X r2 = (7, 0) ∧ 0 < (M r2 1)) (zg ((zkd X (M r2 1)).1 = 0 ∧ 0 ≤ x3 ∧ x3 < ((zkd X (M r2 1)).2 : Int)) (if (M (M r2 1) x3) = (3 : Int) then zg (zkd X r0 = (8, 0) ∧ 0 < (M r0 5)) (zg (zkd X r0 = (8, 0)) (zg ((zkd X (M r0 5)).1 = 0 ∧ 0 ≤ (M r0 4) ∧ (M r0 4) < ((zkd X (M r0 5)).2 : Int)) (zex 29 37 [] [(2, r0), (0, x1), (2, r2), (0, x3)] (zu M (M r0 5) (M r0 4) x1) X))) else zex 29 49 [] [(2, r0), (0, x1), (2, r2), (0, x3)] M X)))) :=
  (zblk 29 zc29 rfl [3, 5, 17, 37, 43, 49, 51] 55 17 _ _ _ _).trans rfl
-- yX2_listGaps
theorem q29_37 (r0 : Int) (x1 : Int) (r2 : Int) (x3 : Int) (M : zM) (X : zX) : zex 29 37 [] [(2, r0), (0, x1), (2, r2), (0, x3)] M X = zg (zkd X r0 = (8, 0) ∧ 0 < (M r0 6)) (zg (zkd X r0 = (8, 0)) (zg ((zkd X (M r0 6)).1 = 0 ∧ 0 ≤ (M r0 4) ∧ (M r0 4) < ((zkd X (M r0 6)).2 : Int)) (zex 29 43 [] [(2, r0), (0, x1), (2, r2), (0, x3)] (zu M (M r0 6) (M r0 4) x3) X))) :=
  (zblk 29 zc29 rfl [3, 5, 17, 37, 43, 49, 51] 55 37 _ _ _ _).trans rfl
-- yX2_listGaps
theorem q29_43 (r0 : Int) (x1 : Int) (r2 : Int) (x3 : Int) (M : zM) (X : zX) : zex 29 43 [] [(2, r0), (0, x1), (2, r2), (0, x3)] M X = zg (zkd X r0 = (8, 0)) (zg (zI ((M r0 4) + (1 : Int))) (zg (zkd X r0 = (8, 0)) (zex 29 49 [] [(2, r0), (0, x1), (2, r2), (0, x3)] (zu M r0 4 ((M r0 4) + (1 : Int))) X))) :=
  (zblk 29 zc29 rfl [3, 5, 17, 37, 43, 49, 51] 55 43 _ _ _ _).trans rfl
-- yX2_listGaps
theorem q29_49 (r0 : Int) (x1 : Int) (r2 : Int) (x3 : Int) (M : zM) (X : zX) : zex 29 49 [] [(2, r0), (0, x1), (2, r2), (0, x3)] M X = zg (zI (x3 + (1 : Int))) (zex 29 17 [] [(2, r0), (0, x1), (2, r2), (0, (x3 + (1 : Int)))] M X) :=
  (zblk 29 zc29 rfl [3, 5, 17, 37, 43, 49, 51] 55 49 _ _ _ _).trans rfl
-- yX2_listGaps
theorem q29_51 (r0 : Int) (x1 : Int) (r2 : Int) (x3 : Int) (M : zM) (X : zX) : zex 29 51 [] [(2, r0), (0, x1), (2, r2), (0, x3)] M X = zg (zI (x1 + (1 : Int))) (zex 29 5 [] [(2, r0), (0, (x1 + (1 : Int))), (2, r2), (0, x3)] M X) :=
  (zblk 29 zc29 rfl [3, 5, 17, 37, 43, 49, 51] 55 51 _ _ _ _).trans rfl
-- yX2_listSlips
theorem q30_0 (r0 : Int) (d1 : zV) (d2 : zV) (d3 : zV) (M : zM) (X : zX) : zex 30 0 [] [(2, r0), d1, d2, d3] M X = zg (zkd X r0 = (8, 0)) (zex 30 3 [] [(2, r0), d1, d2, d3] (zu M r0 7 (0 : Int)) X) :=
  (zblk 30 zc30 rfl [3, 5, 18, 33, 39, 45, 47] 51 0 _ _ _ _).trans rfl
-- yX2_listSlips
theorem q30_3 (r0 : Int) (d1 : zV) (d2 : zV) (d3 : zV) (M : zM) (X : zX) : zex 30 3 [] [(2, r0), d1, d2, d3] M X = zex 30 5 [] [(2, r0), (0, (0 : Int)), d2, d3] M X :=
  (zblk 30 zc30 rfl [3, 5, 18, 33, 39, 45, 47] 51 3 _ _ _ _).trans rfl
-- yX2_listSlips
theorem q30_5 (r0 : Int) (x1 : Int) (d2 : zV) (d3 : zV) (M : zM) (X : zX) : zex 30 5 [] [(2, r0), (0, x1), d2, d3] M X = if (3 : Int) ≤ x1 then some ((9, 0), M, X) else zg (zkd X r0 = (8, 0) ∧ 0 < (M r0 0)) (zg (zkd X (M r0 0) = (12, 0) ∧ 0 < (M (M r0 0) 0)) (zg (zkd X (M (M r0 0) 0) = (6, 0) ∧ 0 < (M (M (M r0 0) 0) 0)) (zg ((zkd X (M (M (M r0 0) 0) 0)).1 = 3 ∧ 0 ≤ x1 ∧ x1 < ((zkd X (M (M (M r0 0) 0) 0)).2 : Int) ∧ 0 < (M (M (M (M r0 0) 0) 0) x1)) (zg (zkd X (M (M (M (M r0 0) 0) 0) x1) = (7, 0)) (zex 30 18 [] [(2, r0), (0, x1), (0, (M (M (M (M (M r0 0) 0) 0) x1) 0)), (0, (0 : Int))] M X))))) :=
  (zblk 30 zc30 rfl [3, 5, 18, 33, 39, 45, 47] 51 5 _ _ _ _).trans rfl
-- yX2_listSlips
theorem q30_18 (r0 : Int) (x1 : Int) (x2 : Int) (x3 : Int) (M : zM) (X : zX) : zex 30 18 [] [(2, r0), (0, x1), (0, x2), (0, x3)] M X = zg (zI (x3 + (1 : Int))) (if x2 ≤ (x3 + (1 : Int)) then zex 30 47 [] [(2, r0), (0, x1), (0, x2), (0, x3)] M X else zg (zkd X r0 = (8, 0)) (if (117 : Int) ≤ (M r0 7) then zex 30 47 [] [(2, r0), (0, x1), (0, x2), (0, x3)] M X else zg (zkd X r0 = (8, 0) ∧ 0 < (M r0 8)) (zg (zkd X r0 = (8, 0)) (zg ((zkd X (M r0 8)).1 = 0 ∧ 0 ≤ (M r0 7) ∧ (M r0 7) < ((zkd X (M r0 8)).2 : Int)) (zex 30 33 [] [(2, r0), (0, x1), (0, x2), (0, x3)] (zu M (M r0 8) (M r0 7) x1) X))))) :=
  (zblk 30 zc30 rfl [3, 5, 18, 33, 39, 45, 47] 51 18 _ _ _ _).trans rfl
-- yX2_listSlips
theorem q30_33 (r0 : Int) (x1 : Int) (x2 : Int) (x3 : Int) (M : zM) (X : zX) : zex 30 33 [] [(2, r0), (0, x1), (0, x2), (0, x3)] M X = zg (zkd X r0 = (8, 0) ∧ 0 < (M r0 9)) (zg (zkd X r0 = (8, 0)) (zg ((zkd X (M r0 9)).1 = 0 ∧ 0 ≤ (M r0 7) ∧ (M r0 7) < ((zkd X (M r0 9)).2 : Int)) (zex 30 39 [] [(2, r0), (0, x1), (0, x2), (0, x3)] (zu M (M r0 9) (M r0 7) x3) X))) :=
  (zblk 30 zc30 rfl [3, 5, 18, 33, 39, 45, 47] 51 33 _ _ _ _).trans rfl
-- yX2_listSlips
theorem q30_39 (r0 : Int) (x1 : Int) (x2 : Int) (x3 : Int) (M : zM) (X : zX) : zex 30 39 [] [(2, r0), (0, x1), (0, x2), (0, x3)] M X = zg (zkd X r0 = (8, 0)) (zg (zI ((M r0 7) + (1 : Int))) (zg (zkd X r0 = (8, 0)) (zex 30 45 [] [(2, r0), (0, x1), (0, x2), (0, x3)] (zu M r0 7 ((M r0 7) + (1 : Int))) X))) :=
  (zblk 30 zc30 rfl [3, 5, 18, 33, 39, 45, 47] 51 39 _ _ _ _).trans rfl
-- yX2_listSlips
theorem q30_45 (r0 : Int) (x1 : Int) (x2 : Int) (x3 : Int) (M : zM) (X : zX) : zex 30 45 [] [(2, r0), (0, x1), (0, x2), (0, x3)] M X = zg (zI (x3 + (1 : Int))) (zex 30 18 [] [(2, r0), (0, x1), (0, x2), (0, (x3 + (1 : Int)))] M X) :=
  (zblk 30 zc30 rfl [3, 5, 18, 33, 39, 45, 47] 51 45 _ _ _ _).trans rfl
-- yX2_listSlips
theorem q30_47 (r0 : Int) (x1 : Int) (x2 : Int) (x3 : Int) (M : zM) (X : zX) : zex 30 47 [] [(2, r0), (0, x1), (0, x2), (0, x3)] M X = zg (zI (x1 + (1 : Int))) (zex 30 5 [] [(2, r0), (0, (x1 + (1 : Int))), (0, x2), (0, x3)] M X) :=
  (zblk 30 zc30 rfl [3, 5, 18, 33, 39, 45, 47] 51 47 _ _ _ _).trans rfl
-- yX2_giveSlip
theorem q31_0 (r0 : Int) (x1 : Int) (M : zM) (X : zX) : zex 31 0 [] [(2, r0), (0, x1)] M X = zg (zkd X r0 = (8, 0) ∧ 0 < (M r0 0)) (zg (zkd X (M r0 0) = (12, 0) ∧ 0 < (M (M r0 0) 3)) (zg (zkd X r0 = (8, 0) ∧ 0 < (M r0 8)) (zg ((zkd X (M r0 8)).1 = 0 ∧ 0 ≤ x1 ∧ x1 < ((zkd X (M r0 8)).2 : Int)) (zg ((zkd X (M (M r0 0) 3)).1 = 5 ∧ 0 ≤ (M (M r0 8) x1) ∧ (M (M r0 8) x1) < ((zkd X (M (M r0 0) 3)).2 : Int) ∧ 0 < (M (M (M r0 0) 3) (M (M r0 8) x1))) (zg (zkd X r0 = (8, 0) ∧ 0 < (M r0 9)) (zg ((zkd X (M r0 9)).1 = 0 ∧ 0 ≤ x1 ∧ x1 < ((zkd X (M r0 9)).2 : Int)) (zg (zI ((M (M r0 9) x1) + (1 : Int))) (zg ((zkd X (M (M (M r0 0) 3) (M (M r0 8) x1))).1 = 0 ∧ 0 ≤ ((M (M r0 9) x1) + (1 : Int)) ∧ ((M (M r0 9) x1) + (1 : Int)) < ((zkd X (M (M (M r0 0) 3) (M (M r0 8) x1))).2 : Int)) (some ((9, 0), (zu M (M (M (M r0 0) 3) (M (M r0 8) x1)) ((M (M r0 9) x1) + (1 : Int)) (2 : Int)), X)))))))))) :=
  (zblk 31 zc31 rfl [] 18 0 _ _ _ _).trans rfl
-- yX2_takeSlipBack
set_option maxRecDepth 20000 in
theorem q32_0 (r0 : Int) (x1 : Int) (d2 : zV) (d3 : zV) (M : zM) (X : zX) : zex 32 0 [] [(2, r0), (0, x1), d2, d3] M X = zg (zkd X r0 = (8, 0) ∧ 0 < (M r0 8)) (zg ((zkd X (M r0 8)).1 = 0 ∧ 0 ≤ x1 ∧ x1 < ((zkd X (M r0 8)).2 : Int)) (zg (zkd X r0 = (8, 0) ∧ 0 < (M r0 9)) (zg ((zkd X (M r0 9)).1 = 0 ∧ 0 ≤ x1 ∧ x1 < ((zkd X (M r0 9)).2 : Int)) (zg (zI ((M (M r0 9) x1) + (1 : Int))) (zg (zkd X r0 = (8, 0) ∧ 0 < (M r0 0)) (zg (zkd X (M r0 0) = (12, 0) ∧ 0 < (M (M r0 0) 3)) (zg ((zkd X (M (M r0 0) 3)).1 = 5 ∧ 0 ≤ (M (M r0 8) x1) ∧ (M (M r0 8) x1) < ((zkd X (M (M r0 0) 3)).2 : Int) ∧ 0 < (M (M (M r0 0) 3) (M (M r0 8) x1))) (zg (zkd X r0 = (8, 0) ∧ 0 < (M r0 0)) (zg (zkd X (M r0 0) = (12, 0) ∧ 0 < (M (M r0 0) 0)) (zg (zkd X (M (M r0 0) 0) = (6, 0) ∧ 0 < (M (M (M r0 0) 0) 0)) (zg ((zkd X (M (M (M r0 0) 0) 0)).1 = 3 ∧ 0 ≤ (M (M r0 8) x1) ∧ (M (M r0 8) x1) < ((zkd X (M (M (M r0 0) 0) 0)).2 : Int) ∧ 0 < (M (M (M (M r0 0) 0) 0) (M (M r0 8) x1))) (zg (zkd X (M (M (M (M r0 0) 0) 0) (M (M r0 8) x1)) = (7, 0) ∧ 0 < (M (M (M (M (M r0 0) 0) 0) (M (M r0 8) x1)) 1)) (zg ((zkd X (M (M (M (M (M r0 0) 0) 0) (M (M r0 8) x1)) 1)).1 = 0 ∧ 0 ≤ ((M (M r0 9) x1) + (1 : Int)) ∧ ((M (M r0 9) x1) + (1 : Int)) < ((zkd X (M (M (M (M (M r0 0) 0) 0) (M (M r0 8) x1)) 1)).2 : Int)) (zg ((zkd X (M (M (M r0 0) 3) (M (M r0 8) x1))).1 = 0 ∧ 0 ≤ ((M (M r0 9) x1) + (1 : Int)) ∧ ((M (M r0 9) x1) + (1 : Int)) < ((zkd X (M (M (M r0 0) 3) (M (M r0 8) x1))).2 : Int)) (some ((9, 0), (zu M (M (M (M r0 0) 3) (M (M r0 8) x1)) ((M (M r0 9) x1) + (1 : Int)) (M (M (M (M (M (M r0 0) 0) 0) (M (M r0 8) x1)) 1) ((M (M r0 9) x1) + (1 : Int)))), X)))))))))))))))) :=
  (zblk 32 zc32 rfl [] 30 0 _ _ _ _).trans rfl
-- yX3_init
theorem q33_0 (r0 : Int) (M : zM) (X : zX) : zex 33 0 [] [(2, r0)] M X = zg (0 ≤ (1024 : Int) ∧ (1024 : Int) ≤ 65536 ∧ 1 ≤ X.2.1 ∧ Int.toNat (1024 : Int) ≤ X.2.2) (zg (zkd (X.1 ++ [(2, Int.toNat (1024 : Int))], X.2.1 - 1, X.2.2 - Int.toNat (1024 : Int)) r0 = (9, 0)) (zex 33 6 [] [(2, r0)] (zu (zclr M ((X.1.length : Int) + 1)) r0 0 ((X.1.length : Int) + 1)) (X.1 ++ [(2, Int.toNat (1024 : Int))], X.2.1 - 1, X.2.2 - Int.toNat (1024 : Int)))) :=
  (zblk 33 zc33 rfl [6, 10, 15, 20] 22 0 _ _ _ _).trans rfl
-- yX3_init
theorem q33_6 (r0 : Int) (M : zM) (X : zX) : zex 33 6 [] [(2, r0)] M X = zg (0 ≤ (2048 : Int) ∧ (2048 : Int) ≤ 65536 ∧ 1 ≤ X.2.1 ∧ Int.toNat (2048 : Int) ≤ X.2.2) (zg (zkd (X.1 ++ [(0, Int.toNat (2048 : Int))], X.2.1 - 1, X.2.2 - Int.toNat (2048 : Int)) r0 = (9, 0)) (zex 33 10 [] [(2, r0)] (zu (zclr M ((X.1.length : Int) + 1)) r0 2 ((X.1.length : Int) + 1)) (X.1 ++ [(0, Int.toNat (2048 : Int))], X.2.1 - 1, X.2.2 - Int.toNat (2048 : Int)))) :=
  (zblk 33 zc33 rfl [6, 10, 15, 20] 22 6 _ _ _ _).trans rfl
-- yX3_init
theorem q33_10 (r0 : Int) (M : zM) (X : zX) : zex 33 10 [] [(2, r0)] M X = zg (1 ≤ X.2.1 ∧ 3 ≤ X.2.2) (zg (zkd (X.1 ++ [(10, 0)], X.2.1 - 1, X.2.2 - 3) ((X.1.length : Int) + 1) = (10, 0)) (zbN (zex 44 0 [] [(2, ((X.1.length : Int) + 1))] (zclr M ((X.1.length : Int) + 1)) (X.1 ++ [(10, 0)], X.2.1 - 1, X.2.2 - 3)) (fun M1 X1 => zg (zkd X1 r0 = (9, 0)) (zex 33 15 [] [(2, r0)] (zu M1 r0 3 ((X.1.length : Int) + 1)) X1)))) :=
  (zblk 33 zc33 rfl [6, 10, 15, 20] 22 10 _ _ _ _).trans rfl
-- yX3_init
theorem q33_15 (r0 : Int) (M : zM) (X : zX) : zex 33 15 [] [(2, r0)] M X = zg (1 ≤ X.2.1 ∧ 3 ≤ X.2.2) (zg (zkd (X.1 ++ [(10, 0)], X.2.1 - 1, X.2.2 - 3) ((X.1.length : Int) + 1) = (10, 0)) (zbN (zex 44 0 [] [(2, ((X.1.length : Int) + 1))] (zclr M ((X.1.length : Int) + 1)) (X.1 ++ [(10, 0)], X.2.1 - 1, X.2.2 - 3)) (fun M1 X1 => zg (zkd X1 r0 = (9, 0)) (zex 33 20 [] [(2, r0)] (zu M1 r0 4 ((X.1.length : Int) + 1)) X1)))) :=
  (zblk 33 zc33 rfl [6, 10, 15, 20] 22 15 _ _ _ _).trans rfl
-- yX3_init
theorem q33_20 (r0 : Int) (M : zM) (X : zX) : zex 33 20 [] [(2, r0)] M X = some ((9, 0), M, X) :=
  (zblk 33 zc33 rfl [6, 10, 15, 20] 22 20 _ _ _ _).trans rfl
-- yX3_free
theorem q34_0 (r0 : Int) (d1 : zV) (M : zM) (X : zX) : zex 34 0 [] [(2, r0), d1] M X = zex 34 2 [] [(2, r0), (0, (0 : Int))] M X :=
  (zblk 34 zc34 rfl [2] 17 0 _ _ _ _).trans rfl
-- yX3_free
theorem q34_2 (r0 : Int) (x1 : Int) (M : zM) (X : zX) : zex 34 2 [] [(2, r0), (0, x1)] M X = if (1024 : Int) ≤ x1 then zg (zkd X r0 = (9, 0)) (some ((9, 0), (zu M r0 1 (0 : Int)), X)) else zg (zkd X r0 = (9, 0) ∧ 0 < (M r0 0)) (zg ((zkd X (M r0 0)).1 = 2 ∧ 0 ≤ x1 ∧ x1 < ((zkd X (M r0 0)).2 : Int) ∧ ((0 : Int) = 0 ∨ (0 : Int) = 1)) (zg (zI (x1 + (1 : Int))) (zex 34 2 [] [(2, r0), (0, (x1 + (1 : Int)))] (zu M (M r0 0) x1 (0 : Int)) X))) :=
  (zblk 34 zc34 rfl [2] 17 2 _ _ _ _).trans rfl
-- yX3_change
theorem q35_0 (r0 : Int) (x1 : Int) (x2 : Int) (d3 : zV) (M : zM) (X : zX) : zex 35 0 [] [(2, r0), (0, x1), (0, x2), d3] M X = zbI (zex 135 0 [] [(0, x1), (0, x2)] M X) (fun v1 M1 X1 => if v1 = 0 then some ((9, 0), M1, X1) else zg (zI (x2 * (32 : Int))) (zg (zI ((x2 * (32 : Int)) + x1)) (zg (zkd X1 r0 = (9, 0) ∧ 0 < (M1 r0 0)) (zg (zkd X1 r0 = (9, 0) ∧ 0 < (M1 r0 0)) (zg ((zkd X1 (M1 r0 0)).1 = 2 ∧ 0 ≤ ((x2 * (32 : Int)) + x1) ∧ ((x2 * (32 : Int)) + x1) < ((zkd X1 (M1 r0 0)).2 : Int)) (if (M1 (M1 r0 0) ((x2 * (32 : Int)) + x1)) = 0 then zex 35 22 [(0, (1 : Int)), (0, ((x2 * (32 : Int)) + x1)), (2, (M1 r0 0))] [(2, r0), (0, x1), (0, x2), (0, ((x2 * (32 : Int)) + x1))] M1 X1 else zex 35 22 [(0, (0 : Int)), (0, ((x2 * (32 : Int)) + x1)), (2, (M1 r0 0))] [(2, r0), (0, x1), (0, x2), (0, ((x2 * (32 : Int)) + x1))] M1 X1)))))) :=
  (zblk 35 zc35 rfl [22, 34] 38 0 _ _ _ _).trans rfl
-- yX3_change
theorem q35_22 (s0 : Int) (s1 : Int) (s2 : Int) (r0 : Int) (x1 : Int) (x2 : Int) (x3 : Int) (M : zM) (X : zX) : zex 35 22 [(0, s2), (0, s1), (2, s0)] [(2, r0), (0, x1), (0, x2), (0, x3)] M X = zg ((zkd X s0).1 = 2 ∧ 0 ≤ s1 ∧ s1 < ((zkd X s0).2 : Int) ∧ (s2 = 0 ∨ s2 = 1)) (zg (zkd X r0 = (9, 0)) (zg (zkd X r0 = (9, 0) ∧ 0 < ((zu M s0 s1 s2) r0 0)) (zg ((zkd X ((zu M s0 s1 s2) r0 0)).1 = 2 ∧ 0 ≤ x3 ∧ x3 < ((zkd X ((zu M s0 s1 s2) r0 0)).2 : Int)) (if ((zu M s0 s1 s2) ((zu M s0 s1 s2) r0 0) x3) = 0 then zex 35 34 [(0, (-1 : Int)), (0, ((zu M s0 s1 s2) r0 1)), (2, r0)] [(2, r0), (0, x1), (0, x2), (0, x3)] (zu M s0 s1 s2) X else zex 35 34 [(0, (1 : Int)), (0, ((zu M s0 s1 s2) r0 1)), (2, r0)] [(2, r0), (0, x1), (0, x2), (0, x3)] (zu M s0 s1 s2) X)))) :=
  (zblk 35 zc35 rfl [22, 34] 38 22 _ _ _ _).trans rfl
-- yX3_change
theorem q35_34 (s0 : Int) (s1 : Int) (s2 : Int) (r0 : Int) (x1 : Int) (x2 : Int) (x3 : Int) (M : zM) (X : zX) : zex 35 34 [(0, s2), (0, s1), (2, s0)] [(2, r0), (0, x1), (0, x2), (0, x3)] M X = zg (zI (s1 + s2)) (zg (zkd X s0 = (9, 0)) (some ((9, 0), (zu M s0 1 (s1 + s2)), X))) :=
  (zblk 35 zc35 rfl [22, 34] 38 34 _ _ _ _).trans rfl
-- yX3_isFree
theorem q36_0 (r0 : Int) (x1 : Int) (x2 : Int) (M : zM) (X : zX) : zex 36 0 [] [(2, r0), (0, x1), (0, x2)] M X = if x1 < 0 then zex 36 21 [] [(2, r0), (0, x1), (0, x2)] M X else if (32 : Int) ≤ x1 then zex 36 21 [] [(2, r0), (0, x1), (0, x2)] M X else if x2 < 0 then zex 36 21 [] [(2, r0), (0, x1), (0, x2)] M X else if (32 : Int) ≤ x2 then zex 36 21 [] [(2, r0), (0, x1), (0, x2)] M X else zg (zkd X r0 = (9, 0) ∧ 0 < (M r0 0)) (zg (zI (x2 * (32 : Int))) (zg (zI ((x2 * (32 : Int)) + x1)) (zg ((zkd X (M r0 0)).1 = 2 ∧ 0 ≤ ((x2 * (32 : Int)) + x1) ∧ ((x2 * (32 : Int)) + x1) < ((zkd X (M r0 0)).2 : Int)) (if (M (M r0 0) ((x2 * (32 : Int)) + x1)) = 0 then zex 36 22 [(0, (1 : Int))] [(2, r0), (0, x1), (0, x2)] M X else zex 36 21 [] [(2, r0), (0, x1), (0, x2)] M X)))) :=
  (zblk 36 zc36 rfl [21, 22] 24 0 _ _ _ _).trans rfl
-- yX3_isFree
theorem q36_21 (r0 : Int) (x1 : Int) (x2 : Int) (M : zM) (X : zX) : zex 36 21 [] [(2, r0), (0, x1), (0, x2)] M X = zex 36 22 [(0, (0 : Int))] [(2, r0), (0, x1), (0, x2)] M X :=
  (zblk 36 zc36 rfl [21, 22] 24 21 _ _ _ _).trans rfl
-- yX3_isFree
theorem q36_22 (s0 : Int) (r0 : Int) (x1 : Int) (x2 : Int) (M : zM) (X : zX) : zex 36 22 [(0, s0)] [(2, r0), (0, x1), (0, x2)] M X = zg (s0 = 0 ∨ s0 = 1) (some ((0, s0), M, X)) :=
  (zblk 36 zc36 rfl [21, 22] 24 22 _ _ _ _).trans rfl
-- yX3_measure
set_option maxRecDepth 20000 in
theorem q37_0 (r0 : Int) (x1 : Int) (x2 : Int) (x3 : Int) (x4 : Int) (x5 : Int) (x6 : Int) (d7 : zV) (d8 : zV) (d9 : zV) (M : zM) (X : zX) : zex 37 0 [] [(2, r0), (0, x1), (0, x2), (0, x3), (0, x4), (0, x5), (0, x6), d7, d8, d9] M X = zg (zkd X r0 = (9, 0) ∧ 0 < (M r0 2)) (zbN (zex 223 0 [] [(2, (M r0 2)), (0, (1073741824 : Int)), (9, 0), (9, 0)] M X) (fun M1 X1 => zg (zkd X1 r0 = (9, 0) ∧ 0 < (M1 r0 3)) (zg (zkd X1 (M1 r0 3) = (10, 0)) (zbN (zex 45 0 [] [(2, (M1 r0 3))] M1 X1) (fun M2 X2 => zg (zkd X2 r0 = (9, 0) ∧ 0 < (M2 r0 4)) (zg (zkd X2 (M2 r0 4) = (10, 0)) (zbN (zex 45 0 [] [(2, (M2 r0 4))] M2 X2) (fun M3 X3 => zg (zkd X3 r0 = (9, 0)) (zbI (zex 40 0 [] [(0, x1), (0, x2), (0, x3)] (zu M3 r0 5 x6) X3) (fun v4 M4 X4 => zg (zkd X4 r0 = (9, 0)) (zbI (zex 36 0 [] [(2, r0), (0, x1), (0, x2)] M4 X4) (fun v5 M5 X5 => if v5 = 0 then zex 37 28 [] [(2, r0), (0, x1), (0, x2), (0, x3), (0, x4), (0, x5), (0, x6), (0, v4), d8, d9] M5 X5 else zg (zkd X5 r0 = (9, 0)) (zbI (zex 36 0 [] [(2, r0), (0, x4), (0, x5)] M5 X5) (fun v6 M6 X6 => if v6 = 0 then zex 37 28 [] [(2, r0), (0, x1), (0, x2), (0, x3), (0, x4), (0, x5), (0, x6), (0, v4), d8, d9] M6 X6 else zbI (zex 40 0 [] [(0, x4), (0, x5), (0, (0 : Int))] M6 X6) (fun v7 M7 X7 => zg (zkd X7 r0 = (9, 0) ∧ 0 < (M7 r0 3)) (zg (zkd X7 r0 = (9, 0)) (zbN (zex 43 0 [] [(2, r0), (0, v7), (0, (0 : Int)), (2, (M7 r0 3))] M7 X7) (fun M8 X8 => zbI (zex 40 0 [] [(0, x4), (0, x5), (0, (1 : Int))] M8 X8) (fun v9 M9 X9 => zg (zkd X9 r0 = (9, 0) ∧ 0 < (M9 r0 3)) (zg (zkd X9 r0 = (9, 0)) (zbN (zex 43 0 [] [(2, r0), (0, v9), (0, (0 : Int)), (2, (M9 r0 3))] M9 X9) (fun M10 X10 => zex 37 50 [] [(2, r0), (0, x1), (0, x2), (0, x3), (0, x4), (0, x5), (0, x6), (0, v4), (0, (0 : Int)), d9] M10 X10)))))))))))))))))))))) :=
  (zblk 37 zc37 rfl [28, 50] 76 0 _ _ _ _).trans rfl
-- yX3_measure
theorem q37_28 (r0 : Int) (x1 : Int) (x2 : Int) (x3 : Int) (x4 : Int) (x5 : Int) (x6 : Int) (x7 : Int) (d8 : zV) (d9 : zV) (M : zM) (X : zX) : zex 37 28 [] [(2, r0), (0, x1), (0, x2), (0, x3), (0, x4), (0, x5), (0, x6), (0, x7), d8, d9] M X = some ((0, (-1 : Int)), M, X) :=
  (zblk 37 zc37 rfl [28, 50] 76 28 _ _ _ _).trans rfl
-- yX3_measure
theorem q37_50 (r0 : Int) (x1 : Int) (x2 : Int) (x3 : Int) (x4 : Int) (x5 : Int) (x6 : Int) (x7 : Int) (x8 : Int) (d9 : zV) (M : zM) (X : zX) : zex 37 50 [] [(2, r0), (0, x1), (0, x2), (0, x3), (0, x4), (0, x5), (0, x6), (0, x7), (0, x8), d9] M X = if (4096 : Int) ≤ x8 then some ((0, (-1 : Int)), M, X) else zg (zkd X r0 = (9, 0)) (zbI (zex 41 0 [] [(2, r0)] M X) (fun v1 M1 X1 => if 0 ≤ v1 then if v1 = x7 then zg (zkd X1 r0 = (9, 0) ∧ 0 < (M1 r0 2)) (zg ((zkd X1 (M1 r0 2)).1 = 0 ∧ 0 ≤ v1 ∧ v1 < ((zkd X1 (M1 r0 2)).2 : Int)) (some ((0, (M1 (M1 r0 2) v1)), M1, X1))) else zg (zkd X1 r0 = (9, 0)) (zbN (zex 42 0 [] [(2, r0), (0, v1), (9, 0), (9, 0), (9, 0), (9, 0), (9, 0)] M1 X1) (fun M2 X2 => zg (zI (x8 + (1 : Int))) (zex 37 50 [] [(2, r0), (0, x1), (0, x2), (0, x3), (0, x4), (0, x5), (0, x6), (0, x7), (0, (x8 + (1 : Int))), (0, v1)] M2 X2))) else some ((0, (-1 : Int)), M1, X1))) :=
  (zblk 37 zc37 rfl [28, 50] 76 50 _ _ _ _).trans rfl
-- yX3_firstMove
set_option maxRecDepth 20000 in
theorem q38_0 (r0 : Int) (x1 : Int) (x2 : Int) (x3 : Int) (x4 : Int) (d5 : zV) (d6 : zV) (M : zM) (X : zX) : zex 38 0 [] [(2, r0), (0, x1), (0, x2), (0, x3), (0, x4), d5, d6] M X = zg ((3 : Int) = 1 ∨ (3 : Int) = 3 ∨ (3 : Int) = 15 ∨ (3 : Int) = 63) (zg (2 = ((2 : Nat) : Int) ∧ 0 ≤ (x3 % ((3 : Int) + 1)) ∧ (x3 % ((3 : Int) + 1)) < zsl M 2) (zg ((3 : Int) = 1 ∨ (3 : Int) = 3 ∨ (3 : Int) = 15 ∨ (3 : Int) = 63) (zg (3 = ((3 : Nat) : Int) ∧ 0 ≤ (x3 % ((3 : Int) + 1)) ∧ (x3 % ((3 : Int) + 1)) < zsl M 3) (zg (zI (x1 + (zsv M 2 (x3 % ((3 : Int) + 1))))) (zg (zI (x2 + (zsv M 3 (x3 % ((3 : Int) + 1))))) (zg (zI (x4 - (1 : Int))) (zg (zkd X r0 = (9, 0)) (zbI (zex 39 0 [] [(2, r0), (0, (x1 + (zsv M 2 (x3 % ((3 : Int) + 1))))), (0, (x2 + (zsv M 3 (x3 % ((3 : Int) + 1))))), (0, x3), (0, (x4 - (1 : Int)))] M X) (fun v1 M1 X1 => if v1 = 0 then zg (zI (x1 - (zsv M 2 (x3 % ((3 : Int) + 1))))) (zg (zI (x2 - (zsv M 3 (x3 % ((3 : Int) + 1))))) (zg (zI (x4 - (1 : Int))) (zg (zkd X1 r0 = (9, 0)) (zbI (zex 39 0 [] [(2, r0), (0, (x1 - (zsv M 2 (x3 % ((3 : Int) + 1))))), (0, (x2 - (zsv M 3 (x3 % ((3 : Int) + 1))))), (0, x3), (0, (x4 - (1 : Int)))] M1 X1) (fun v2 M2 X2 => if v2 = 0 then some ((0, (2 : Int)), M2, X2) else some ((0, (1 : Int)), M2, X2)))))) else some ((0, (0 : Int)), M1, X1)))))))))) :=
  (zblk 38 zc38 rfl [] 45 0 _ _ _ _).trans rfl
-- yX3_isNext
theorem q39_0 (r0 : Int) (x1 : Int) (x2 : Int) (x3 : Int) (x4 : Int) (M : zM) (X : zX) : zex 39 0 [] [(2, r0), (0, x1), (0, x2), (0, x3), (0, x4)] M X = zg (zkd X r0 = (9, 0)) (zbI (zex 36 0 [] [(2, r0), (0, x1), (0, x2)] M X) (fun v1 M1 X1 => if v1 = 0 then zex 39 16 [] [(2, r0), (0, x1), (0, x2), (0, x3), (0, x4)] M1 X1 else zg (zkd X1 r0 = (9, 0) ∧ 0 < (M1 r0 2)) (zbI (zex 40 0 [] [(0, x1), (0, x2), (0, x3)] M1 X1) (fun v2 M2 X2 => zg ((zkd X2 (M1 r0 2)).1 = 0 ∧ 0 ≤ v2 ∧ v2 < ((zkd X2 (M1 r0 2)).2 : Int)) (if (M2 (M1 r0 2) v2) = x4 then zex 39 17 [(0, (1 : Int))] [(2, r0), (0, x1), (0, x2), (0, x3), (0, x4)] M2 X2 else zex 39 16 [] [(2, r0), (0, x1), (0, x2), (0, x3), (0, x4)] M2 X2))))) :=
  (zblk 39 zc39 rfl [16, 17] 19 0 _ _ _ _).trans rfl
-- yX3_isNext
theorem q39_16 (r0 : Int) (x1 : Int) (x2 : Int) (x3 : Int) (x4 : Int) (M : zM) (X : zX) : zex 39 16 [] [(2, r0), (0, x1), (0, x2), (0, x3), (0, x4)] M X = zex 39 17 [(0, (0 : Int))] [(2, r0), (0, x1), (0, x2), (0, x3), (0, x4)] M X :=
  (zblk 39 zc39 rfl [16, 17] 19 16 _ _ _ _).trans rfl
-- yX3_isNext
theorem q39_17 (s0 : Int) (r0 : Int) (x1 : Int) (x2 : Int) (x3 : Int) (x4 : Int) (M : zM) (X : zX) : zex 39 17 [(0, s0)] [(2, r0), (0, x1), (0, x2), (0, x3), (0, x4)] M X = zg (s0 = 0 ∨ s0 = 1) (some ((0, s0), M, X)) :=
  (zblk 39 zc39 rfl [16, 17] 19 17 _ _ _ _).trans rfl
-- yX3_stateOf
theorem q40_0 (x0 : Int) (x1 : Int) (x2 : Int) (M : zM) (X : zX) : zex 40 0 [] [(0, x0), (0, x1), (0, x2)] M X = zg (zI (x1 * (32 : Int))) (zg (zI ((x1 * (32 : Int)) + x0)) (zg (zI (((x1 * (32 : Int)) + x0) * (2 : Int))) (zg ((1 : Int) = 1 ∨ (1 : Int) = 3 ∨ (1 : Int) = 15 ∨ (1 : Int) = 63) (zg (zI ((((x1 * (32 : Int)) + x0) * (2 : Int)) + (x2 % ((1 : Int) + 1)))) (some ((0, ((((x1 * (32 : Int)) + x0) * (2 : Int)) + (x2 % ((1 : Int) + 1)))), M, X)))))) :=
  (zblk 40 zc40 rfl [] 13 0 _ _ _ _).trans rfl
-- yX3_takeNearest
set_option maxRecDepth 20000 in
theorem q41_0 (r0 : Int) (M : zM) (X : zX) : zex 41 0 [] [(2, r0)] M X = zg (zkd X r0 = (9, 0) ∧ 0 < (M r0 4)) (zg (zkd X (M r0 4) = (10, 0)) (zbI (zex 46 0 [] [(2, (M r0 4))] M X) (fun v1 M1 X1 => if v1 = 0 then zg (zkd X1 r0 = (9, 0) ∧ 0 < (M1 r0 3)) (zg (zkd X1 (M1 r0 3) = (10, 0)) (zbI (zex 46 0 [] [(2, (M1 r0 3))] M1 X1) (fun v2 M2 X2 => if v2 = 0 then zg (zkd X2 r0 = (9, 0) ∧ 0 < (M2 r0 2)) (zg (zkd X2 r0 = (9, 0) ∧ 0 < (M2 r0 4)) (zg (zkd X2 (M2 r0 4) = (10, 0)) (zbI (zex 48 0 [] [(2, (M2 r0 4))] M2 X2) (fun v3 M3 X3 => zg ((zkd X3 (M2 r0 2)).1 = 0 ∧ 0 ≤ v3 ∧ v3 < ((zkd X3 (M2 r0 2)).2 : Int)) (zg (zkd X3 r0 = (9, 0) ∧ 0 < (M3 r0 2)) (zg (zkd X3 r0 = (9, 0) ∧ 0 < (M3 r0 3)) (zg (zkd X3 (M3 r0 3) = (10, 0)) (zbI (zex 48 0 [] [(2, (M3 r0 3))] M3 X3) (fun v4 M4 X4 => zg ((zkd X4 (M3 r0 2)).1 = 0 ∧ 0 ≤ v4 ∧ v4 < ((zkd X4 (M3 r0 2)).2 : Int)) (if (M4 (M3 r0 2) v4) ≤ (M3 (M2 r0 2) v3) then zg (zkd X4 r0 = (9, 0) ∧ 0 < (M4 r0 3)) (zg (zkd X4 (M4 r0 3) = (10, 0)) (zbI (zex 49 0 [] [(2, (M4 r0 3))] M4 X4) (fun v5 M5 X5 => zex 41 36 [(0, v5)] [(2, r0)] M5 X5))) else zg (zkd X4 r0 = (9, 0) ∧ 0 < (M4 r0 4)) (zg (zkd X4 (M4 r0 4) = (10, 0)) (zbI (zex 49 0 [] [(2, (M4 r0 4))] M4 X4) (fun v6 M6 X6 => zex 41 36 [(0, v6)] [(2, r0)] M6 X6))))))))))))) else zg (zkd X2 r0 = (9, 0) ∧ 0 < (M2 r0 4)) (zg (zkd X2 (M2 r0 4) = (10, 0)) (zbI (zex 49 0 [] [(2, (M2 r0 4))] M2 X2) (fun v7 M7 X7 => some ((0, v7), M7, X7))))))) else zg (zkd X1 r0 = (9, 0) ∧ 0 < (M1 r0 3)) (zg (zkd X1 (M1 r0 3) = (10, 0)) (zbI (zex 49 0 [] [(2, (M1 r0 3))] M1 X1) (fun v8 M8 X8 => some ((0, v8), M8, X8))))))) :=
  (zblk 41 zc41 rfl [36] 38 0 _ _ _ _).trans rfl
-- yX3_takeNearest
theorem q41_36 (s0 : Int) (r0 : Int) (M : zM) (X : zX) : zex 41 36 [(0, s0)] [(2, r0)] M X = some ((0, s0), M, X) :=
  (zblk 41 zc41 rfl [36] 38 36 _ _ _ _).trans rfl
-- yX3_spread
set_option maxRecDepth 20000 in
theorem q42_0 (r0 : Int) (x1 : Int) (d2 : zV) (d3 : zV) (d4 : zV) (d5 : zV) (d6 : zV) (M : zM) (X : zX) : zex 42 0 [] [(2, r0), (0, x1), d2, d3, d4, d5, d6] M X = zg ((1 : Int) = 1 ∨ (1 : Int) = 3 ∨ (1 : Int) = 15 ∨ (1 : Int) = 63) (zg (0 < (2 : Int)) (zg (0 < (32 : Int)) (zg (0 < (32 : Int)) (zg (zkd X r0 = (9, 0) ∧ 0 < (M r0 2)) (zg ((zkd X (M r0 2)).1 = 0 ∧ 0 ≤ x1 ∧ x1 < ((zkd X (M r0 2)).2 : Int)) (zg (zI ((M (M r0 2) x1) + (1 : Int))) (zg (2 = ((2 : Nat) : Int) ∧ 0 ≤ (x1 % ((1 : Int) + 1)) ∧ (x1 % ((1 : Int) + 1)) < zsl M 2) (zg (zI ((Int.tmod (Int.tdiv x1 (2 : Int)) (32 : Int)) + (zsv M 2 (x1 % ((1 : Int) + 1))))) (zg (3 = ((3 : Nat) : Int) ∧ 0 ≤ (x1 % ((1 : Int) + 1)) ∧ (x1 % ((1 : Int) + 1)) < zsl M 3) (zg (zI ((Int.tdiv (Int.tdiv x1 (2 : Int)) (32 : Int)) + (zsv M 3 (x1 % ((1 : Int) + 1))))) (zg (zkd X r0 = (9, 0)) (zbI (zex 36 0 [] [(2, r0), (0, ((Int.tmod (Int.tdiv x1 (2 : Int)) (32 : Int)) + (zsv M 2 (x1 % ((1 : Int) + 1))))), (0, ((Int.tdiv (Int.tdiv x1 (2 : Int)) (32 : Int)) + (zsv M 3 (x1 % ((1 : Int) + 1)))))] M X) (fun v1 M1 X1 => if v1 = 0 then zex 42 53 [] [(2, r0), (0, x1), (0, (x1 % ((1 : Int) + 1))), (0, (Int.tdiv x1 (2 : Int))), (0, (Int.tmod (Int.tdiv x1 (2 : Int)) (32 : Int))), (0, (Int.tdiv (Int.tdiv x1 (2 : Int)) (32 : Int))), (0, ((M (M r0 2) x1) + (1 : Int)))] M1 X1 else zg (2 = ((2 : Nat) : Int) ∧ 0 ≤ (x1 % ((1 : Int) + 1)) ∧ (x1 % ((1 : Int) + 1)) < zsl M1 2) (zg (zI ((Int.tmod (Int.tdiv x1 (2 : Int)) (32 : Int)) + (zsv M1 2 (x1 % ((1 : Int) + 1))))) (zg (3 = ((3 : Nat) : Int) ∧ 0 ≤ (x1 % ((1 : Int) + 1)) ∧ (x1 % ((1 : Int) + 1)) < zsl M1 3) (zg (zI ((Int.tdiv (Int.tdiv x1 (2 : Int)) (32 : Int)) + (zsv M1 3 (x1 % ((1 : Int) + 1))))) (zbI (zex 40 0 [] [(0, ((Int.tmod (Int.tdiv x1 (2 : Int)) (32 : Int)) + (zsv M1 2 (x1 % ((1 : Int) + 1))))), (0, ((Int.tdiv (Int.tdiv x1 (2 : Int)) (32 : Int)) + (zsv M1 3 (x1 % ((1 : Int) + 1))))), (0, (x1 % ((1 : Int) + 1)))] M1 X1) (fun v2 M2 X2 => zg (zkd X2 r0 = (9, 0) ∧ 0 < (M2 r0 3)) (zg (zkd X2 r0 = (9, 0)) (zbN (zex 43 0 [] [(2, r0), (0, v2), (0, ((M (M r0 2) x1) + (1 : Int))), (2, (M2 r0 3))] M2 X2) (fun M3 X3 => zex 42 53 [] [(2, r0), (0, x1), (0, (x1 % ((1 : Int) + 1))), (0, (Int.tdiv x1 (2 : Int))), (0, (Int.tmod (Int.tdiv x1 (2 : Int)) (32 : Int))), (0, (Int.tdiv (Int.tdiv x1 (2 : Int)) (32 : Int))), (0, ((M (M r0 2) x1) + (1 : Int)))] M3 X3))))))))))))))))))))) :=
  (zblk 42 zc42 rfl [53, 83] 102 0 _ _ _ _).trans rfl
-- yX3_spread
theorem q42_53 (r0 : Int) (x1 : Int) (x2 : Int) (x3 : Int) (x4 : Int) (x5 : Int) (x6 : Int) (M : zM) (X : zX) : zex 42 53 [] [(2, r0), (0, x1), (0, x2), (0, x3), (0, x4), (0, x5), (0, x6)] M X = zg (2 = ((2 : Nat) : Int) ∧ 0 ≤ x2 ∧ x2 < zsl M 2) (zg (zI (x4 - (zsv M 2 x2))) (zg (3 = ((3 : Nat) : Int) ∧ 0 ≤ x2 ∧ x2 < zsl M 3) (zg (zI (x5 - (zsv M 3 x2))) (zg (zkd X r0 = (9, 0)) (zbI (zex 36 0 [] [(2, r0), (0, (x4 - (zsv M 2 x2))), (0, (x5 - (zsv M 3 x2)))] M X) (fun v1 M1 X1 => if v1 = 0 then zex 42 83 [] [(2, r0), (0, x1), (0, x2), (0, x3), (0, x4), (0, x5), (0, x6)] M1 X1 else zg (2 = ((2 : Nat) : Int) ∧ 0 ≤ x2 ∧ x2 < zsl M1 2) (zg (zI (x4 - (zsv M1 2 x2))) (zg (3 = ((3 : Nat) : Int) ∧ 0 ≤ x2 ∧ x2 < zsl M1 3) (zg (zI (x5 - (zsv M1 3 x2))) (zbI (zex 40 0 [] [(0, (x4 - (zsv M1 2 x2))), (0, (x5 - (zsv M1 3 x2))), (0, x2)] M1 X1) (fun v2 M2 X2 => zg (zkd X2 r0 = (9, 0) ∧ 0 < (M2 r0 3)) (zg (zkd X2 r0 = (9, 0)) (zbN (zex 43 0 [] [(2, r0), (0, v2), (0, x6), (2, (M2 r0 3))] M2 X2) (fun M3 X3 => zex 42 83 [] [(2, r0), (0, x1), (0, x2), (0, x3), (0, x4), (0, x5), (0, x6)] M3 X3)))))))))))))) :=
  (zblk 42 zc42 rfl [53, 83] 102 53 _ _ _ _).trans rfl
-- yX3_spread
theorem q42_83 (r0 : Int) (x1 : Int) (x2 : Int) (x3 : Int) (x4 : Int) (x5 : Int) (x6 : Int) (M : zM) (X : zX) : zex 42 83 [] [(2, r0), (0, x1), (0, x2), (0, x3), (0, x4), (0, x5), (0, x6)] M X = zg (zI ((1 : Int) - x2)) (zbI (zex 40 0 [] [(0, x4), (0, x5), (0, ((1 : Int) - x2))] M X) (fun v1 M1 X1 => zg (zkd X1 r0 = (9, 0) ∧ 0 < (M1 r0 2)) (zg ((zkd X1 (M1 r0 2)).1 = 0 ∧ 0 ≤ x1 ∧ x1 < ((zkd X1 (M1 r0 2)).2 : Int)) (zg (zkd X1 r0 = (9, 0)) (zg (zI ((M1 (M1 r0 2) x1) + (M1 r0 5))) (zg (zkd X1 r0 = (9, 0) ∧ 0 < (M1 r0 4)) (zg (zkd X1 r0 = (9, 0)) (zbN (zex 43 0 [] [(2, r0), (0, v1), (0, ((M1 (M1 r0 2) x1) + (M1 r0 5))), (2, (M1 r0 4))] M1 X1) (fun M2 X2 => some ((9, 0), M2, X2)))))))))) :=
  (zblk 42 zc42 rfl [53, 83] 102 83 _ _ _ _).trans rfl
-- yX3_reach
theorem q43_0 (r0 : Int) (x1 : Int) (x2 : Int) (r3 : Int) (M : zM) (X : zX) : zex 43 0 [] [(2, r0), (0, x1), (0, x2), (2, r3)] M X = zg (zkd X r0 = (9, 0) ∧ 0 < (M r0 2)) (zg ((zkd X (M r0 2)).1 = 0 ∧ 0 ≤ x1 ∧ x1 < ((zkd X (M r0 2)).2 : Int)) (if (M (M r0 2) x1) ≤ x2 then zex 43 14 [] [(2, r0), (0, x1), (0, x2), (2, r3)] M X else zg (zkd X r0 = (9, 0) ∧ 0 < (M r0 2)) (zg ((zkd X (M r0 2)).1 = 0 ∧ 0 ≤ x1 ∧ x1 < ((zkd X (M r0 2)).2 : Int)) (zg (zkd X r3 = (10, 0)) (zbN (zex 47 0 [] [(2, r3), (0, x1)] (zu M (M r0 2) x1 x2) X) (fun M1 X1 => zex 43 14 [] [(2, r0), (0, x1), (0, x2), (2, r3)] M1 X1)))))) :=
  (zblk 43 zc43 rfl [14] 16 0 _ _ _ _).trans rfl
-- yX3_reach
theorem q43_14 (r0 : Int) (x1 : Int) (x2 : Int) (r3 : Int) (M : zM) (X : zX) : zex 43 14 [] [(2, r0), (0, x1), (0, x2), (2, r3)] M X = some ((9, 0), M, X) :=
  (zblk 43 zc43 rfl [14] 16 14 _ _ _ _).trans rfl
-- yX4_init
theorem q44_0 (r0 : Int) (M : zM) (X : zX) : zex 44 0 [] [(2, r0)] M X = zg (0 ≤ (2048 : Int) ∧ (2048 : Int) ≤ 65536 ∧ 1 ≤ X.2.1 ∧ Int.toNat (2048 : Int) ≤ X.2.2) (zg (zkd (X.1 ++ [(0, Int.toNat (2048 : Int))], X.2.1 - 1, X.2.2 - Int.toNat (2048 : Int)) r0 = (10, 0)) (zex 44 6 [] [(2, r0)] (zu (zclr M ((X.1.length : Int) + 1)) r0 0 ((X.1.length : Int) + 1)) (X.1 ++ [(0, Int.toNat (2048 : Int))], X.2.1 - 1, X.2.2 - Int.toNat (2048 : Int)))) :=
  (zblk 44 zc44 rfl [6] 8 0 _ _ _ _).trans rfl
-- yX4_init
theorem q44_6 (r0 : Int) (M : zM) (X : zX) : zex 44 6 [] [(2, r0)] M X = some ((9, 0), M, X) :=
  (zblk 44 zc44 rfl [6] 8 6 _ _ _ _).trans rfl
-- yX4_empty
theorem q45_0 (r0 : Int) (M : zM) (X : zX) : zex 45 0 [] [(2, r0)] M X = zg (zkd X r0 = (10, 0)) (zg (zkd X r0 = (10, 0)) (some ((9, 0), (zu (zu M r0 1 (0 : Int)) r0 2 (0 : Int)), X))) :=
  (zblk 45 zc45 rfl [] 8 0 _ _ _ _).trans rfl
-- yX4_isEmpty
theorem q46_0 (r0 : Int) (M : zM) (X : zX) : zex 46 0 [] [(2, r0)] M X = zg (zkd X r0 = (10, 0)) (zg (zkd X r0 = (10, 0)) (if (M r0 1) < (M r0 2) then zex 46 8 [(0, (0 : Int))] [(2, r0)] M X else zex 46 8 [(0, (1 : Int))] [(2, r0)] M X)) :=
  (zblk 46 zc46 rfl [8] 10 0 _ _ _ _).trans rfl
-- yX4_isEmpty
theorem q46_8 (s0 : Int) (r0 : Int) (M : zM) (X : zX) : zex 46 8 [(0, s0)] [(2, r0)] M X = zg (s0 = 0 ∨ s0 = 1) (some ((0, s0), M, X)) :=
  (zblk 46 zc46 rfl [8] 10 8 _ _ _ _).trans rfl
-- yX4_add
theorem q47_0 (r0 : Int) (x1 : Int) (M : zM) (X : zX) : zex 47 0 [] [(2, r0), (0, x1)] M X = zg (zkd X r0 = (10, 0)) (zg (zkd X r0 = (10, 0) ∧ 0 < (M r0 0)) (zg ((zkd X (M r0 0)).1 = 0 ∧ (zkd X (M r0 0)).2 ≤ 65536) (if ((zkd X (M r0 0)).2 : Int) ≤ (M r0 2) then zex 47 18 [] [(2, r0), (0, x1)] M X else zg (zkd X r0 = (10, 0) ∧ 0 < (M r0 0)) (zg (zkd X r0 = (10, 0)) (zg ((zkd X (M r0 0)).1 = 0 ∧ 0 ≤ (M r0 2) ∧ (M r0 2) < ((zkd X (M r0 0)).2 : Int)) (zg (zkd X r0 = (10, 0)) (zg (zI (((zu M (M r0 0) (M r0 2) x1) r0 2) + (1 : Int))) (zg (zkd X r0 = (10, 0)) (zex 47 18 [] [(2, r0), (0, x1)] (zu (zu M (M r0 0) (M r0 2) x1) r0 2 (((zu M (M r0 0) (M r0 2) x1) r0 2) + (1 : Int))) X))))))))) :=
  (zblk 47 zc47 rfl [18] 20 0 _ _ _ _).trans rfl
-- yX4_add
theorem q47_18 (r0 : Int) (x1 : Int) (M : zM) (X : zX) : zex 47 18 [] [(2, r0), (0, x1)] M X = some ((9, 0), M, X) :=
  (zblk 47 zc47 rfl [18] 20 18 _ _ _ _).trans rfl
-- yX4_first
theorem q48_0 (r0 : Int) (M : zM) (X : zX) : zex 48 0 [] [(2, r0)] M X = zg (zkd X r0 = (10, 0)) (zbI (zex 46 0 [] [(2, r0)] M X) (fun v1 M1 X1 => if v1 = 0 then zg (zkd X1 r0 = (10, 0) ∧ 0 < (M1 r0 0)) (zg (zkd X1 r0 = (10, 0)) (zg ((zkd X1 (M1 r0 0)).1 = 0 ∧ 0 ≤ (M1 r0 1) ∧ (M1 r0 1) < ((zkd X1 (M1 r0 0)).2 : Int)) (zex 48 10 [(0, (M1 (M1 r0 0) (M1 r0 1)))] [(2, r0)] M1 X1))) else zex 48 10 [(0, (-1 : Int))] [(2, r0)] M1 X1)) :=
  (zblk 48 zc48 rfl [10] 12 0 _ _ _ _).trans rfl
-- yX4_first
theorem q48_10 (s0 : Int) (r0 : Int) (M : zM) (X : zX) : zex 48 10 [(0, s0)] [(2, r0)] M X = some ((0, s0), M, X) :=
  (zblk 48 zc48 rfl [10] 12 10 _ _ _ _).trans rfl
-- yX4_take
theorem q49_0 (r0 : Int) (M : zM) (X : zX) : zex 49 0 [] [(2, r0)] M X = zg (zkd X r0 = (10, 0)) (zbI (zex 46 0 [] [(2, r0)] M X) (fun v1 M1 X1 => if v1 = 0 then zg (zkd X1 r0 = (10, 0)) (zg (zI ((M1 r0 1) + (1 : Int))) (zg (zkd X1 r0 = (10, 0)) (zg (zkd X1 r0 = (10, 0) ∧ 0 < ((zu M1 r0 1 ((M1 r0 1) + (1 : Int))) r0 0)) (zg (zkd X1 r0 = (10, 0)) (zg (zI (((zu M1 r0 1 ((M1 r0 1) + (1 : Int))) r0 1) - (1 : Int))) (zg ((zkd X1 ((zu M1 r0 1 ((M1 r0 1) + (1 : Int))) r0 0)).1 = 0 ∧ 0 ≤ (((zu M1 r0 1 ((M1 r0 1) + (1 : Int))) r0 1) - (1 : Int)) ∧ (((zu M1 r0 1 ((M1 r0 1) + (1 : Int))) r0 1) - (1 : Int)) < ((zkd X1 ((zu M1 r0 1 ((M1 r0 1) + (1 : Int))) r0 0)).2 : Int)) (some ((0, ((zu M1 r0 1 ((M1 r0 1) + (1 : Int))) ((zu M1 r0 1 ((M1 r0 1) + (1 : Int))) r0 0) (((zu M1 r0 1 ((M1 r0 1) + (1 : Int))) r0 1) - (1 : Int)))), (zu M1 r0 1 ((M1 r0 1) + (1 : Int))), X1)))))))) else some ((0, (-1 : Int)), M1, X1))) :=
  (zblk 49 zc49 rfl [] 20 0 _ _ _ _).trans rfl
-- yX5_init
theorem q50_0 (r0 : Int) (M : zM) (X : zX) : zex 50 0 [] [(2, r0)] M X = some ((9, 0), M, X) :=
  (zblk 50 zc50 rfl [] 4 0 _ _ _ _).trans rfl
-- yX5_place
theorem q51_0 (r0 : Int) (x1 : Int) (x2 : Int) (x3 : Int) (M : zM) (X : zX) : zex 51 0 [] [(2, r0), (0, x1), (0, x2), (0, x3)] M X = zg (zI ((1000 : Int) * x1)) (zg (zI (((1000 : Int) * x1) + (500 : Int))) (zg (zkd X r0 = (11, 0)) (zex 51 7 [] [(2, r0), (0, x1), (0, x2), (0, x3)] (zu M r0 0 (((1000 : Int) * x1) + (500 : Int))) X))) :=
  (zblk 51 zc51 rfl [7, 14, 17, 20, 23] 25 0 _ _ _ _).trans rfl
-- yX5_place
theorem q51_7 (r0 : Int) (x1 : Int) (x2 : Int) (x3 : Int) (M : zM) (X : zX) : zex 51 7 [] [(2, r0), (0, x1), (0, x2), (0, x3)] M X = zg (zI ((1000 : Int) * x2)) (zg (zI (((1000 : Int) * x2) + (500 : Int))) (zg (zkd X r0 = (11, 0)) (zex 51 14 [] [(2, r0), (0, x1), (0, x2), (0, x3)] (zu M r0 1 (((1000 : Int) * x2) + (500 : Int))) X))) :=
  (zblk 51 zc51 rfl [7, 14, 17, 20, 23] 25 7 _ _ _ _).trans rfl
-- yX5_place
theorem q51_14 (r0 : Int) (x1 : Int) (x2 : Int) (x3 : Int) (M : zM) (X : zX) : zex 51 14 [] [(2, r0), (0, x1), (0, x2), (0, x3)] M X = zg (zkd X r0 = (11, 0)) (zex 51 17 [] [(2, r0), (0, x1), (0, x2), (0, x3)] (zu M r0 2 x3) X) :=
  (zblk 51 zc51 rfl [7, 14, 17, 20, 23] 25 14 _ _ _ _).trans rfl
-- yX5_place
theorem q51_17 (r0 : Int) (x1 : Int) (x2 : Int) (x3 : Int) (M : zM) (X : zX) : zex 51 17 [] [(2, r0), (0, x1), (0, x2), (0, x3)] M X = zg (zkd X r0 = (11, 0)) (zex 51 20 [] [(2, r0), (0, x1), (0, x2), (0, x3)] (zu M r0 3 (0 : Int)) X) :=
  (zblk 51 zc51 rfl [7, 14, 17, 20, 23] 25 17 _ _ _ _).trans rfl
-- yX5_place
theorem q51_20 (r0 : Int) (x1 : Int) (x2 : Int) (x3 : Int) (M : zM) (X : zX) : zex 51 20 [] [(2, r0), (0, x1), (0, x2), (0, x3)] M X = zg (zkd X r0 = (11, 0)) (zex 51 23 [] [(2, r0), (0, x1), (0, x2), (0, x3)] (zu M r0 4 (0 : Int)) X) :=
  (zblk 51 zc51 rfl [7, 14, 17, 20, 23] 25 20 _ _ _ _).trans rfl
-- yX5_place
theorem q51_23 (r0 : Int) (x1 : Int) (x2 : Int) (x3 : Int) (M : zM) (X : zX) : zex 51 23 [] [(2, r0), (0, x1), (0, x2), (0, x3)] M X = some ((9, 0), M, X) :=
  (zblk 51 zc51 rfl [7, 14, 17, 20, 23] 25 23 _ _ _ _).trans rfl
-- yX5_become
theorem q52_0 (r0 : Int) (r1 : Int) (M : zM) (X : zX) : zex 52 0 [] [(2, r0), (2, r1)] M X = zg (zkd X r1 = (11, 0)) (zg (zkd X r0 = (11, 0)) (zex 52 4 [] [(2, r0), (2, r1)] (zu M r0 0 (M r1 0)) X)) :=
  (zblk 52 zc52 rfl [4, 8, 12, 16, 20] 22 0 _ _ _ _).trans rfl
-- yX5_become
theorem q52_4 (r0 : Int) (r1 : Int) (M : zM) (X : zX) : zex 52 4 [] [(2, r0), (2, r1)] M X = zg (zkd X r1 = (11, 0)) (zg (zkd X r0 = (11, 0)) (zex 52 8 [] [(2, r0), (2, r1)] (zu M r0 1 (M r1 1)) X)) :=
  (zblk 52 zc52 rfl [4, 8, 12, 16, 20] 22 4 _ _ _ _).trans rfl
-- yX5_become
theorem q52_8 (r0 : Int) (r1 : Int) (M : zM) (X : zX) : zex 52 8 [] [(2, r0), (2, r1)] M X = zg (zkd X r1 = (11, 0)) (zg (zkd X r0 = (11, 0)) (zex 52 12 [] [(2, r0), (2, r1)] (zu M r0 2 (M r1 2)) X)) :=
  (zblk 52 zc52 rfl [4, 8, 12, 16, 20] 22 8 _ _ _ _).trans rfl
-- yX5_become
theorem q52_12 (r0 : Int) (r1 : Int) (M : zM) (X : zX) : zex 52 12 [] [(2, r0), (2, r1)] M X = zg (zkd X r1 = (11, 0)) (zg (zkd X r0 = (11, 0)) (zex 52 16 [] [(2, r0), (2, r1)] (zu M r0 3 (M r1 3)) X)) :=
  (zblk 52 zc52 rfl [4, 8, 12, 16, 20] 22 12 _ _ _ _).trans rfl
-- yX5_become
theorem q52_16 (r0 : Int) (r1 : Int) (M : zM) (X : zX) : zex 52 16 [] [(2, r0), (2, r1)] M X = zg (zkd X r1 = (11, 0)) (zg (zkd X r0 = (11, 0)) (zex 52 20 [] [(2, r0), (2, r1)] (zu M r0 4 (M r1 4)) X)) :=
  (zblk 52 zc52 rfl [4, 8, 12, 16, 20] 22 16 _ _ _ _).trans rfl
-- yX5_become
theorem q52_20 (r0 : Int) (r1 : Int) (M : zM) (X : zX) : zex 52 20 [] [(2, r0), (2, r1)] M X = some ((9, 0), M, X) :=
  (zblk 52 zc52 rfl [4, 8, 12, 16, 20] 22 20 _ _ _ _).trans rfl
-- yX5_cellX
theorem q53_0 (r0 : Int) (M : zM) (X : zX) : zex 53 0 [] [(2, r0)] M X = zg (zkd X r0 = (11, 0)) (zbI (zex 220 0 [] [(0, (M r0 0)), (0, (1000 : Int)), (9, 0)] M X) (fun v1 M1 X1 => some ((0, v1), M1, X1))) :=
  (zblk 53 zc53 rfl [] 6 0 _ _ _ _).trans rfl
-- yX5_cellY
theorem q54_0 (r0 : Int) (M : zM) (X : zX) : zex 54 0 [] [(2, r0)] M X = zg (zkd X r0 = (11, 0)) (zbI (zex 220 0 [] [(0, (M r0 1)), (0, (1000 : Int)), (9, 0)] M X) (fun v1 M1 X1 => some ((0, v1), M1, X1))) :=
  (zblk 54 zc54 rfl [] 6 0 _ _ _ _).trans rfl
-- yX5_part
theorem q55_0 (r0 : Int) (x1 : Int) (M : zM) (X : zX) : zex 55 0 [] [(2, r0), (0, x1)] M X = if x1 = (0 : Int) then zg (zkd X r0 = (11, 0)) (some ((0, (M r0 0)), M, X)) else if x1 = (1 : Int) then zg (zkd X r0 = (11, 0)) (some ((0, (M r0 1)), M, X)) else if x1 = (2 : Int) then zg (zkd X r0 = (11, 0)) (some ((0, (M r0 2)), M, X)) else if x1 = (3 : Int) then zg (zkd X r0 = (11, 0)) (some ((0, (M r0 3)), M, X)) else zg (zkd X r0 = (11, 0)) (some ((0, (M r0 4)), M, X)) :=
  (zblk 55 zc55 rfl [] 18 0 _ _ _ _).trans rfl
-- yX5_roll
theorem q56_0 (r0 : Int) (x1 : Int) (x2 : Int) (x3 : Int) (x4 : Int) (d5 : zV) (d6 : zV) (d7 : zV) (d8 : zV) (d9 : zV) (M : zM) (X : zX) : zex 56 0 [] [(2, r0), (0, x1), (0, x2), (0, x3), (0, x4), d5, d6, d7, d8, d9] M X = zg (zI (x1 + x2)) (zg (zI (x2 - x1)) (zex 56 12 [] [(2, r0), (0, x1), (0, x2), (0, x3), (0, x4), (0, (x1 + x2)), (0, (x2 - x1)), (0, x3), (0, (0 : Int)), d9] M X)) :=
  (zblk 56 zc56 rfl [12, 29, 31, 46, 61, 69, 80] 82 0 _ _ _ _).trans rfl
-- yX5_roll
theorem q56_12 (r0 : Int) (x1 : Int) (x2 : Int) (x3 : Int) (x4 : Int) (x5 : Int) (x6 : Int) (x7 : Int) (x8 : Int) (d9 : zV) (M : zM) (X : zX) : zex 56 12 [] [(2, r0), (0, x1), (0, x2), (0, x3), (0, x4), (0, x5), (0, x6), (0, x7), (0, x8), d9] M X = if x3 ≤ x8 then zex 56 80 [] [(2, r0), (0, x1), (0, x2), (0, x3), (0, x4), (0, x5), (0, x6), (0, x7), (0, x8), d9] M X else if x7 ≤ 0 then zex 56 80 [] [(2, r0), (0, x1), (0, x2), (0, x3), (0, x4), (0, x5), (0, x6), (0, x7), (0, x8), d9] M X else zg (zI ((2 : Int) * x4)) (zg (zkd X r0 = (11, 0)) (zbI (zex 57 0 [] [(2, r0), (0, x6), (0, ((2 : Int) * x4)), (9, 0)] M X) (fun v1 M1 X1 => if x7 < v1 then zex 56 29 [] [(2, r0), (0, x1), (0, x2), (0, x3), (0, x4), (0, x5), (0, x6), (0, x7), (0, x8), (0, v1)] M1 X1 else if x6 = 0 then zex 56 29 [] [(2, r0), (0, x1), (0, x2), (0, x3), (0, x4), (0, x5), (0, x6), (0, x7), (0, x8), (0, v1)] M1 X1 else zex 56 31 [] [(2, r0), (0, x1), (0, x2), (0, x3), (0, x4), (0, x5), (0, x6), (0, x7), (0, x8), (0, v1)] M1 X1))) :=
  (zblk 56 zc56 rfl [12, 29, 31, 46, 61, 69, 80] 82 12 _ _ _ _).trans rfl
-- yX5_roll
theorem q56_29 (r0 : Int) (x1 : Int) (x2 : Int) (x3 : Int) (x4 : Int) (x5 : Int) (x6 : Int) (x7 : Int) (x8 : Int) (x9 : Int) (M : zM) (X : zX) : zex 56 29 [] [(2, r0), (0, x1), (0, x2), (0, x3), (0, x4), (0, x5), (0, x6), (0, x7), (0, x8), (0, x9)] M X = zex 56 31 [] [(2, r0), (0, x1), (0, x2), (0, x3), (0, x4), (0, x5), (0, x6), (0, x7), (0, x8), (0, x7)] M X :=
  (zblk 56 zc56 rfl [12, 29, 31, 46, 61, 69, 80] 82 29 _ _ _ _).trans rfl
-- yX5_roll
theorem q56_31 (r0 : Int) (x1 : Int) (x2 : Int) (x3 : Int) (x4 : Int) (x5 : Int) (x6 : Int) (x7 : Int) (x8 : Int) (x9 : Int) (M : zM) (X : zX) : zex 56 31 [] [(2, r0), (0, x1), (0, x2), (0, x3), (0, x4), (0, x5), (0, x6), (0, x7), (0, x8), (0, x9)] M X = zg (zkd X r0 = (11, 0)) (zg (zI (x9 * x5)) (zg (zkd X r0 = (11, 0)) (zg ((15 : Int) = 1 ∨ (15 : Int) = 3 ∨ (15 : Int) = 15 ∨ (15 : Int) = 63) (zg (0 = ((0 : Nat) : Int) ∧ 0 ≤ ((M r0 2) % ((15 : Int) + 1)) ∧ ((M r0 2) % ((15 : Int) + 1)) < zsl M 0) (zg (zI ((x9 * x5) * (zsv M 0 ((M r0 2) % ((15 : Int) + 1))))) (zg (zI ((M r0 0) + ((x9 * x5) * (zsv M 0 ((M r0 2) % ((15 : Int) + 1)))))) (zg (zkd X r0 = (11, 0)) (zex 56 46 [] [(2, r0), (0, x1), (0, x2), (0, x3), (0, x4), (0, x5), (0, x6), (0, x7), (0, x8), (0, x9)] (zu M r0 0 ((M r0 0) + ((x9 * x5) * (zsv M 0 ((M r0 2) % ((15 : Int) + 1)))))) X)))))))) :=
  (zblk 56 zc56 rfl [12, 29, 31, 46, 61, 69, 80] 82 31 _ _ _ _).trans rfl
-- yX5_roll
theorem q56_46 (r0 : Int) (x1 : Int) (x2 : Int) (x3 : Int) (x4 : Int) (x5 : Int) (x6 : Int) (x7 : Int) (x8 : Int) (x9 : Int) (M : zM) (X : zX) : zex 56 46 [] [(2, r0), (0, x1), (0, x2), (0, x3), (0, x4), (0, x5), (0, x6), (0, x7), (0, x8), (0, x9)] M X = zg (zkd X r0 = (11, 0)) (zg (zI (x9 * x5)) (zg (zkd X r0 = (11, 0)) (zg ((15 : Int) = 1 ∨ (15 : Int) = 3 ∨ (15 : Int) = 15 ∨ (15 : Int) = 63) (zg (1 = ((1 : Nat) : Int) ∧ 0 ≤ ((M r0 2) % ((15 : Int) + 1)) ∧ ((M r0 2) % ((15 : Int) + 1)) < zsl M 1) (zg (zI ((x9 * x5) * (zsv M 1 ((M r0 2) % ((15 : Int) + 1))))) (zg (zI ((M r0 1) + ((x9 * x5) * (zsv M 1 ((M r0 2) % ((15 : Int) + 1)))))) (zg (zkd X r0 = (11, 0)) (zex 56 61 [] [(2, r0), (0, x1), (0, x2), (0, x3), (0, x4), (0, x5), (0, x6), (0, x7), (0, x8), (0, x9)] (zu M r0 1 ((M r0 1) + ((x9 * x5) * (zsv M 1 ((M r0 2) % ((15 : Int) + 1)))))) X)))))))) :=
  (zblk 56 zc56 rfl [12, 29, 31, 46, 61, 69, 80] 82 46 _ _ _ _).trans rfl
-- yX5_roll
theorem q56_61 (r0 : Int) (x1 : Int) (x2 : Int) (x3 : Int) (x4 : Int) (x5 : Int) (x6 : Int) (x7 : Int) (x8 : Int) (x9 : Int) (M : zM) (X : zX) : zex 56 61 [] [(2, r0), (0, x1), (0, x2), (0, x3), (0, x4), (0, x5), (0, x6), (0, x7), (0, x8), (0, x9)] M X = zg (zkd X r0 = (11, 0)) (zg (zI (x9 * x6)) (zg (zI ((M r0 3) + (x9 * x6))) (zg (zkd X r0 = (11, 0)) (zex 56 69 [] [(2, r0), (0, x1), (0, x2), (0, x3), (0, x4), (0, x5), (0, x6), (0, x7), (0, x8), (0, x9)] (zu M r0 3 ((M r0 3) + (x9 * x6))) X)))) :=
  (zblk 56 zc56 rfl [12, 29, 31, 46, 61, 69, 80] 82 61 _ _ _ _).trans rfl
-- yX5_roll
theorem q56_69 (r0 : Int) (x1 : Int) (x2 : Int) (x3 : Int) (x4 : Int) (x5 : Int) (x6 : Int) (x7 : Int) (x8 : Int) (x9 : Int) (M : zM) (X : zX) : zex 56 69 [] [(2, r0), (0, x1), (0, x2), (0, x3), (0, x4), (0, x5), (0, x6), (0, x7), (0, x8), (0, x9)] M X = zg (zI ((2 : Int) * x4)) (zg (zkd X r0 = (11, 0)) (zbN (zex 58 0 [] [(2, r0), (0, ((2 : Int) * x4))] M X) (fun M1 X1 => zg (zI (x7 - x9)) (zg (zI (x8 + (1 : Int))) (zex 56 12 [] [(2, r0), (0, x1), (0, x2), (0, x3), (0, x4), (0, x5), (0, x6), (0, (x7 - x9)), (0, (x8 + (1 : Int))), (0, x9)] M1 X1))))) :=
  (zblk 56 zc56 rfl [12, 29, 31, 46, 61, 69, 80] 82 69 _ _ _ _).trans rfl
-- yX5_roll
theorem q56_80 (r0 : Int) (x1 : Int) (x2 : Int) (x3 : Int) (x4 : Int) (x5 : Int) (x6 : Int) (x7 : Int) (x8 : Int) (d9 : zV) (M : zM) (X : zX) : zex 56 80 [] [(2, r0), (0, x1), (0, x2), (0, x3), (0, x4), (0, x5), (0, x6), (0, x7), (0, x8), d9] M X = some ((9, 0), M, X) :=
  (zblk 56 zc56 rfl [12, 29, 31, 46, 61, 69, 80] 82 80 _ _ _ _).trans rfl
-- yX5_unitsToChange
theorem q57_0 (r0 : Int) (x1 : Int) (x2 : Int) (d3 : zV) (M : zM) (X : zX) : zex 57 0 [] [(2, r0), (0, x1), (0, x2), d3] M X = if x1 ≤ 0 then zg (zkd X r0 = (11, 0)) (zg (zI (x2 + (M r0 3))) (zex 57 11 [(0, (x2 + (M r0 3)))] [(2, r0), (0, x1), (0, x2), d3] M X)) else zg (zkd X r0 = (11, 0)) (zg (zI (x2 - (M r0 3))) (zex 57 11 [(0, (x2 - (M r0 3)))] [(2, r0), (0, x1), (0, x2), d3] M X)) :=
  (zblk 57 zc57 rfl [11, 18, 25] 27 0 _ _ _ _).trans rfl
-- yX5_unitsToChange
theorem q57_11 (s0 : Int) (r0 : Int) (x1 : Int) (x2 : Int) (d3 : zV) (M : zM) (X : zX) : zex 57 11 [(0, s0)] [(2, r0), (0, x1), (0, x2), d3] M X = if x1 = (2 : Int) then zex 57 18 [] [(2, r0), (0, x1), (0, x2), (0, s0)] M X else if x1 = (-2 : Int) then zex 57 18 [] [(2, r0), (0, x1), (0, x2), (0, s0)] M X else zex 57 25 [(0, s0)] [(2, r0), (0, x1), (0, x2), (0, s0)] M X :=
  (zblk 57 zc57 rfl [11, 18, 25] 27 11 _ _ _ _).trans rfl
-- yX5_unitsToChange
theorem q57_18 (r0 : Int) (x1 : Int) (x2 : Int) (x3 : Int) (M : zM) (X : zX) : zex 57 18 [] [(2, r0), (0, x1), (0, x2), (0, x3)] M X = zg (zI (x3 + (1 : Int))) (zg (0 < (2 : Int)) (zex 57 25 [(0, (Int.tdiv (x3 + (1 : Int)) (2 : Int)))] [(2, r0), (0, x1), (0, x2), (0, x3)] M X)) :=
  (zblk 57 zc57 rfl [11, 18, 25] 27 18 _ _ _ _).trans rfl
-- yX5_unitsToChange
theorem q57_25 (s0 : Int) (r0 : Int) (x1 : Int) (x2 : Int) (x3 : Int) (M : zM) (X : zX) : zex 57 25 [(0, s0)] [(2, r0), (0, x1), (0, x2), (0, x3)] M X = some ((0, s0), M, X) :=
  (zblk 57 zc57 rfl [11, 18, 25] 27 25 _ _ _ _).trans rfl
-- yX5_changeDirection
theorem q58_0 (r0 : Int) (x1 : Int) (M : zM) (X : zX) : zex 58 0 [] [(2, r0), (0, x1)] M X = zg (zkd X r0 = (11, 0)) (if (M r0 3) < x1 then zg (zkd X r0 = (11, 0)) (zg (zI (-x1)) (if (-x1) < (M r0 3) then zex 58 38 [] [(2, r0), (0, x1)] M X else zg (zkd X r0 = (11, 0)) (zg (zI ((M r0 3) + x1)) (zg (zkd X r0 = (11, 0)) (zex 58 30 [] [(2, r0), (0, x1)] (zu M r0 3 ((M r0 3) + x1)) X))))) else zg (zkd X r0 = (11, 0)) (zg (zI ((M r0 3) - x1)) (zg (zkd X r0 = (11, 0)) (zex 58 10 [] [(2, r0), (0, x1)] (zu M r0 3 ((M r0 3) - x1)) X)))) :=
  (zblk 58 zc58 rfl [10, 18, 30, 38] 40 0 _ _ _ _).trans rfl
-- yX5_changeDirection
theorem q58_10 (r0 : Int) (x1 : Int) (M : zM) (X : zX) : zex 58 10 [] [(2, r0), (0, x1)] M X = zg (zkd X r0 = (11, 0)) (zg (zI ((M r0 2) + (1 : Int))) (zg ((15 : Int) = 1 ∨ (15 : Int) = 3 ∨ (15 : Int) = 15 ∨ (15 : Int) = 63) (zg (zkd X r0 = (11, 0)) (zex 58 18 [] [(2, r0), (0, x1)] (zu M r0 2 (((M r0 2) + (1 : Int)) % ((15 : Int) + 1))) X)))) :=
  (zblk 58 zc58 rfl [10, 18, 30, 38] 40 10 _ _ _ _).trans rfl
-- yX5_changeDirection
theorem q58_18 (r0 : Int) (x1 : Int) (M : zM) (X : zX) : zex 58 18 [] [(2, r0), (0, x1)] M X = zex 58 38 [] [(2, r0), (0, x1)] M X :=
  (zblk 58 zc58 rfl [10, 18, 30, 38] 40 18 _ _ _ _).trans rfl
-- yX5_changeDirection
theorem q58_30 (r0 : Int) (x1 : Int) (M : zM) (X : zX) : zex 58 30 [] [(2, r0), (0, x1)] M X = zg (zkd X r0 = (11, 0)) (zg (zI ((M r0 2) - (1 : Int))) (zg ((15 : Int) = 1 ∨ (15 : Int) = 3 ∨ (15 : Int) = 15 ∨ (15 : Int) = 63) (zg (zkd X r0 = (11, 0)) (zex 58 38 [] [(2, r0), (0, x1)] (zu M r0 2 (((M r0 2) - (1 : Int)) % ((15 : Int) + 1))) X)))) :=
  (zblk 58 zc58 rfl [10, 18, 30, 38] 40 30 _ _ _ _).trans rfl
-- yX5_changeDirection
theorem q58_38 (r0 : Int) (x1 : Int) (M : zM) (X : zX) : zex 58 38 [] [(2, r0), (0, x1)] M X = some ((9, 0), M, X) :=
  (zblk 58 zc58 rfl [10, 18, 30, 38] 40 38 _ _ _ _).trans rfl
-- yX6_init
theorem q59_0 (r0 : Int) (r1 : Int) (r2 : Int) (M : zM) (X : zX) : zex 59 0 [] [(2, r0), (2, r1), (2, r2)] M X = zg (1 ≤ X.2.1 ∧ 5 ≤ X.2.2) (zg (zkd (X.1 ++ [(11, 0)], X.2.1 - 1, X.2.2 - 5) ((X.1.length : Int) + 1) = (11, 0)) (zbN (zex 50 0 [] [(2, ((X.1.length : Int) + 1))] (zclr M ((X.1.length : Int) + 1)) (X.1 ++ [(11, 0)], X.2.1 - 1, X.2.2 - 5)) (fun M1 X1 => zg (zkd X1 r0 = (12, 0)) (zex 59 7 [] [(2, r0), (2, r1), (2, r2)] (zu M1 r0 2 ((X.1.length : Int) + 1)) X1)))) :=
  (zblk 59 zc59 rfl [7, 12, 16, 20, 24, 27, 30] 32 0 _ _ _ _).trans rfl
-- yX6_init
theorem q59_7 (r0 : Int) (r1 : Int) (r2 : Int) (M : zM) (X : zX) : zex 59 7 [] [(2, r0), (2, r1), (2, r2)] M X = zg (0 ≤ (3 : Int) ∧ (3 : Int) ≤ 1024 ∧ 0 ≤ (40 : Int) ∧ (40 : Int) ≤ 1024 ∧ 1 + Int.toNat (3 : Int) ≤ X.2.1 ∧ Int.toNat (3 : Int) + Int.toNat (3 : Int) * Int.toNat (40 : Int) ≤ X.2.2) (zg (zkd (X.1 ++ (5, Int.toNat (3 : Int)) :: List.replicate (Int.toNat (3 : Int)) (0, Int.toNat (40 : Int)), X.2.1 - (1 + Int.toNat (3 : Int)), X.2.2 - (Int.toNat (3 : Int) + Int.toNat (3 : Int) * Int.toNat (40 : Int))) r0 = (12, 0)) (zex 59 12 [] [(2, r0), (2, r1), (2, r2)] (zu (zmul M ((X.1.length : Int) + 1) (3 : Int)) r0 3 ((X.1.length : Int) + 1)) (X.1 ++ (5, Int.toNat (3 : Int)) :: List.replicate (Int.toNat (3 : Int)) (0, Int.toNat (40 : Int)), X.2.1 - (1 + Int.toNat (3 : Int)), X.2.2 - (Int.toNat (3 : Int) + Int.toNat (3 : Int) * Int.toNat (40 : Int))))) :=
  (zblk 59 zc59 rfl [7, 12, 16, 20, 24, 27, 30] 32 7 _ _ _ _).trans rfl
-- yX6_init
theorem q59_12 (r0 : Int) (r1 : Int) (r2 : Int) (M : zM) (X : zX) : zex 59 12 [] [(2, r0), (2, r1), (2, r2)] M X = zg (0 ≤ (3 : Int) ∧ (3 : Int) ≤ 65536 ∧ 1 ≤ X.2.1 ∧ Int.toNat (3 : Int) ≤ X.2.2) (zg (zkd (X.1 ++ [(0, Int.toNat (3 : Int))], X.2.1 - 1, X.2.2 - Int.toNat (3 : Int)) r0 = (12, 0)) (zex 59 16 [] [(2, r0), (2, r1), (2, r2)] (zu (zclr M ((X.1.length : Int) + 1)) r0 4 ((X.1.length : Int) + 1)) (X.1 ++ [(0, Int.toNat (3 : Int))], X.2.1 - 1, X.2.2 - Int.toNat (3 : Int)))) :=
  (zblk 59 zc59 rfl [7, 12, 16, 20, 24, 27, 30] 32 12 _ _ _ _).trans rfl
-- yX6_init
theorem q59_16 (r0 : Int) (r1 : Int) (r2 : Int) (M : zM) (X : zX) : zex 59 16 [] [(2, r0), (2, r1), (2, r2)] M X = zg (0 ≤ (3 : Int) ∧ (3 : Int) ≤ 65536 ∧ 1 ≤ X.2.1 ∧ Int.toNat (3 : Int) ≤ X.2.2) (zg (zkd (X.1 ++ [(0, Int.toNat (3 : Int))], X.2.1 - 1, X.2.2 - Int.toNat (3 : Int)) r0 = (12, 0)) (zex 59 20 [] [(2, r0), (2, r1), (2, r2)] (zu (zclr M ((X.1.length : Int) + 1)) r0 5 ((X.1.length : Int) + 1)) (X.1 ++ [(0, Int.toNat (3 : Int))], X.2.1 - 1, X.2.2 - Int.toNat (3 : Int)))) :=
  (zblk 59 zc59 rfl [7, 12, 16, 20, 24, 27, 30] 32 16 _ _ _ _).trans rfl
-- yX6_init
theorem q59_20 (r0 : Int) (r1 : Int) (r2 : Int) (M : zM) (X : zX) : zex 59 20 [] [(2, r0), (2, r1), (2, r2)] M X = zg (0 ≤ (3 : Int) ∧ (3 : Int) ≤ 65536 ∧ 1 ≤ X.2.1 ∧ Int.toNat (3 : Int) ≤ X.2.2) (zg (zkd (X.1 ++ [(2, Int.toNat (3 : Int))], X.2.1 - 1, X.2.2 - Int.toNat (3 : Int)) r0 = (12, 0)) (zex 59 24 [] [(2, r0), (2, r1), (2, r2)] (zu (zclr M ((X.1.length : Int) + 1)) r0 7 ((X.1.length : Int) + 1)) (X.1 ++ [(2, Int.toNat (3 : Int))], X.2.1 - 1, X.2.2 - Int.toNat (3 : Int)))) :=
  (zblk 59 zc59 rfl [7, 12, 16, 20, 24, 27, 30] 32 20 _ _ _ _).trans rfl
-- yX6_init
theorem q59_24 (r0 : Int) (r1 : Int) (r2 : Int) (M : zM) (X : zX) : zex 59 24 [] [(2, r0), (2, r1), (2, r2)] M X = zg (zkd X r0 = (12, 0)) (zex 59 27 [] [(2, r0), (2, r1), (2, r2)] (zu M r0 0 r1) X) :=
  (zblk 59 zc59 rfl [7, 12, 16, 20, 24, 27, 30] 32 24 _ _ _ _).trans rfl
-- yX6_init
theorem q59_27 (r0 : Int) (r1 : Int) (r2 : Int) (M : zM) (X : zX) : zex 59 27 [] [(2, r0), (2, r1), (2, r2)] M X = zg (zkd X r0 = (12, 0)) (zex 59 30 [] [(2, r0), (2, r1), (2, r2)] (zu M r0 1 r2) X) :=
  (zblk 59 zc59 rfl [7, 12, 16, 20, 24, 27, 30] 32 27 _ _ _ _).trans rfl
-- yX6_init
theorem q59_30 (r0 : Int) (r1 : Int) (r2 : Int) (M : zM) (X : zX) : zex 59 30 [] [(2, r0), (2, r1), (2, r2)] M X = some ((9, 0), M, X) :=
  (zblk 59 zc59 rfl [7, 12, 16, 20, 24, 27, 30] 32 30 _ _ _ _).trans rfl
-- yX6_takeKinds
theorem q60_0 (r0 : Int) (d1 : zV) (M : zM) (X : zX) : zex 60 0 [] [(2, r0), d1] M X = zex 60 2 [] [(2, r0), (0, (0 : Int))] M X :=
  (zblk 60 zc60 rfl [2] 23 0 _ _ _ _).trans rfl
-- yX6_takeKinds
theorem q60_2 (r0 : Int) (x1 : Int) (M : zM) (X : zX) : zex 60 2 [] [(2, r0), (0, x1)] M X = if (3 : Int) ≤ x1 then some ((9, 0), M, X) else zg (zkd X r0 = (12, 0) ∧ 0 < (M r0 0)) (zg (zkd X (M r0 0) = (6, 0) ∧ 0 < (M (M r0 0) 0)) (zg ((zkd X (M (M r0 0) 0)).1 = 3 ∧ 0 ≤ x1 ∧ x1 < ((zkd X (M (M r0 0) 0)).2 : Int) ∧ 0 < (M (M (M r0 0) 0) x1)) (zg (zkd X (M (M (M r0 0) 0) x1) = (7, 0) ∧ 0 < (M (M (M (M r0 0) 0) x1) 1)) (zg (zkd X r0 = (12, 0) ∧ 0 < (M r0 3)) (zg ((zkd X (M r0 3)).1 = 5 ∧ 0 ≤ x1 ∧ x1 < ((zkd X (M r0 3)).2 : Int) ∧ 0 < (M (M r0 3) x1)) (zg ((zkd X (M (M (M (M r0 0) 0) x1) 1)).1 = 0 ∧ (zkd X (M (M r0 3) x1)).1 = 0 ∧ 0 ≤ (40 : Int) ∧ 0 ≤ (0 : Int) ∧ 0 ≤ (0 : Int) ∧ (0 : Int) + (40 : Int) ≤ ((zkd X (M (M (M (M r0 0) 0) x1) 1)).2 : Int) ∧ (0 : Int) + (40 : Int) ≤ ((zkd X (M (M r0 3) x1)).2 : Int)) (zg (zI (x1 + (1 : Int))) (zex 60 2 [] [(2, r0), (0, (x1 + (1 : Int)))] (zcpy M (M (M (M (M r0 0) 0) x1) 1) (0 : Int) (M (M r0 3) x1) (0 : Int) (40 : Int)) X)))))))) :=
  (zblk 60 zc60 rfl [2] 23 2 _ _ _ _).trans rfl
-- yX6_restart
theorem q61_0 (r0 : Int) (d1 : zV) (M : zM) (X : zX) : zex 61 0 [] [(2, r0), d1] M X = zg (zkd X r0 = (12, 0) ∧ 0 < (M r0 2)) (zg (zkd X r0 = (12, 0) ∧ 0 < (M r0 1)) (zg (zkd X (M r0 2) = (11, 0)) (zbN (zex 52 0 [] [(2, (M r0 2)), (2, (M r0 1))] M X) (fun M1 X1 => zg (zkd X1 r0 = (12, 0)) (zex 61 10 [] [(2, r0), (0, (0 : Int))] (zu M1 r0 6 (0 : Int)) X1))))) :=
  (zblk 61 zc61 rfl [10] 21 0 _ _ _ _).trans rfl
-- yX6_restart
theorem q61_10 (r0 : Int) (x1 : Int) (M : zM) (X : zX) : zex 61 10 [] [(2, r0), (0, x1)] M X = if (3 : Int) ≤ x1 then some ((9, 0), M, X) else zg (zkd X r0 = (12, 0)) (zbN (zex 68 0 [] [(2, r0), (0, x1), (0, (0 : Int)), (9, 0)] M X) (fun M1 X1 => zg (zI (x1 + (1 : Int))) (zex 61 10 [] [(2, r0), (0, (x1 + (1 : Int)))] M1 X1))) :=
  (zblk 61 zc61 rfl [10] 21 10 _ _ _ _).trans rfl
-- yX6_isOut
theorem q62_0 (r0 : Int) (x1 : Int) (M : zM) (X : zX) : zex 62 0 [] [(2, r0), (0, x1)] M X = zg (zkd X r0 = (12, 0) ∧ 0 < (M r0 4)) (zg ((zkd X (M r0 4)).1 = 0 ∧ 0 ≤ x1 ∧ x1 < ((zkd X (M r0 4)).2 : Int)) (zg (zkd X r0 = (12, 0) ∧ 0 < (M r0 0)) (zg (zkd X (M r0 0) = (6, 0) ∧ 0 < (M (M r0 0) 0)) (zg ((zkd X (M (M r0 0) 0)).1 = 3 ∧ 0 ≤ x1 ∧ x1 < ((zkd X (M (M r0 0) 0)).2 : Int) ∧ 0 < (M (M (M r0 0) 0) x1)) (zg (zkd X (M (M (M r0 0) 0) x1) = (7, 0)) (if (M (M r0 4) x1) < (M (M (M (M r0 0) 0) x1) 0) then zex 62 14 [(0, (0 : Int))] [(2, r0), (0, x1)] M X else zex 62 14 [(0, (1 : Int))] [(2, r0), (0, x1)] M X)))))) :=
  (zblk 62 zc62 rfl [14] 16 0 _ _ _ _).trans rfl
-- yX6_isOut
theorem q62_14 (s0 : Int) (r0 : Int) (x1 : Int) (M : zM) (X : zX) : zex 62 14 [(0, s0)] [(2, r0), (0, x1)] M X = zg (s0 = 0 ∨ s0 = 1) (some ((0, s0), M, X)) :=
  (zblk 62 zc62 rfl [14] 16 14 _ _ _ _).trans rfl
-- yX6_areAllOut
theorem q63_0 (r0 : Int) (M : zM) (X : zX) : zex 63 0 [] [(2, r0)] M X = zg (zkd X r0 = (12, 0)) (zbI (zex 62 0 [] [(2, r0), (0, (0 : Int))] M X) (fun v1 M1 X1 => if v1 = 0 then zex 63 14 [] [(2, r0)] M1 X1 else zg (zkd X1 r0 = (12, 0)) (zbI (zex 62 0 [] [(2, r0), (0, (1 : Int))] M1 X1) (fun v2 M2 X2 => if v2 = 0 then zex 63 14 [] [(2, r0)] M2 X2 else zg (zkd X2 r0 = (12, 0)) (zbI (zex 62 0 [] [(2, r0), (0, (2 : Int))] M2 X2) (fun v3 M3 X3 => if v3 = 0 then zex 63 14 [] [(2, r0)] M3 X3 else zex 63 15 [(0, (1 : Int))] [(2, r0)] M3 X3)))))) :=
  (zblk 63 zc63 rfl [14, 15] 17 0 _ _ _ _).trans rfl
-- yX6_areAllOut
theorem q63_14 (r0 : Int) (M : zM) (X : zX) : zex 63 14 [] [(2, r0)] M X = zex 63 15 [(0, (0 : Int))] [(2, r0)] M X :=
  (zblk 63 zc63 rfl [14, 15] 17 14 _ _ _ _).trans rfl
-- yX6_areAllOut
theorem q63_15 (s0 : Int) (r0 : Int) (M : zM) (X : zX) : zex 63 15 [(0, s0)] [(2, r0)] M X = zg (s0 = 0 ∨ s0 = 1) (some ((0, s0), M, X)) :=
  (zblk 63 zc63 rfl [14, 15] 17 15 _ _ _ _).trans rfl
-- yX6_goOnTo
theorem q64_0 (r0 : Int) (x1 : Int) (d2 : zV) (M : zM) (X : zX) : zex 64 0 [] [(2, r0), (0, x1), d2] M X = zex 64 2 [] [(2, r0), (0, x1), (0, (0 : Int))] M X :=
  (zblk 64 zc64 rfl [2, 17] 19 0 _ _ _ _).trans rfl
-- yX6_goOnTo
theorem q64_2 (r0 : Int) (x1 : Int) (x2 : Int) (M : zM) (X : zX) : zex 64 2 [] [(2, r0), (0, x1), (0, x2)] M X = if (4000 : Int) < x2 then zex 64 17 [] [(2, r0), (0, x1), (0, x2)] M X else zg (zkd X r0 = (12, 0)) (if x1 ≤ (M r0 6) then zex 64 17 [] [(2, r0), (0, x1), (0, x2)] M X else zg (zkd X r0 = (12, 0)) (zg (zI (x1 - (M r0 6))) (zg (zkd X r0 = (12, 0)) (zbN (zex 65 0 [] [(2, r0), (0, (x1 - (M r0 6))), (9, 0), (9, 0)] M X) (fun M1 X1 => zg (zI (x2 + (1 : Int))) (zex 64 2 [] [(2, r0), (0, x1), (0, (x2 + (1 : Int)))] M1 X1)))))) :=
  (zblk 64 zc64 rfl [2, 17] 19 2 _ _ _ _).trans rfl
-- yX6_goOnTo
theorem q64_17 (r0 : Int) (x1 : Int) (x2 : Int) (M : zM) (X : zX) : zex 64 17 [] [(2, r0), (0, x1), (0, x2)] M X = some ((9, 0), M, X) :=
  (zblk 64 zc64 rfl [2, 17] 19 17 _ _ _ _).trans rfl
-- yX6_advance
theorem q65_0 (r0 : Int) (x1 : Int) (d2 : zV) (d3 : zV) (M : zM) (X : zX) : zex 65 0 [] [(2, r0), (0, x1), d2, d3] M X = zex 65 4 [] [(2, r0), (0, x1), (0, x1), (0, (0 : Int))] M X :=
  (zblk 65 zc65 rfl [4, 22, 42, 52, 54, 69] 71 0 _ _ _ _).trans rfl
-- yX6_advance
set_option maxRecDepth 20000 in
theorem q65_4 (r0 : Int) (x1 : Int) (x2 : Int) (x3 : Int) (M : zM) (X : zX) : zex 65 4 [] [(2, r0), (0, x1), (0, x2), (0, x3)] M X = if (3 : Int) ≤ x3 then zg (zkd X r0 = (12, 0) ∧ 0 < (M r0 2)) (zg (zkd X r0 = (12, 0)) (zbI (zex 66 0 [] [(2, r0), (0, (0 : Int))] M X) (fun v1 M1 X1 => zg (zkd X1 r0 = (12, 0)) (zbI (zex 66 0 [] [(2, r0), (0, (1 : Int))] M1 X1) (fun v2 M2 X2 => zg (zkd X2 r0 = (12, 0) ∧ 0 < (M2 r0 0)) (zg (zkd X2 (M2 r0 0) = (6, 0)) (zg (zkd X2 (M r0 2) = (11, 0)) (zbN (zex 56 0 [] [(2, (M r0 2)), (0, v1), (0, v2), (0, x2), (0, (M2 (M2 r0 0) 3)), (9, 0), (9, 0), (9, 0), (9, 0), (9, 0)] M2 X2) (fun M3 X3 => zg (zkd X3 r0 = (12, 0)) (zbI (zex 66 0 [] [(2, r0), (0, (2 : Int))] M3 X3) (fun v4 M4 X4 => zg (zkd X4 r0 = (12, 0)) (zex 65 42 [] [(2, r0), (0, x1), (0, x2), (0, x3)] (zu M4 r0 8 v4) X4)))))))))))) else zg (zkd X r0 = (12, 0)) (zbI (zex 62 0 [] [(2, r0), (0, x3)] M X) (fun v5 M5 X5 => if v5 = 0 then zg (zkd X5 r0 = (12, 0) ∧ 0 < (M5 r0 5)) (zg ((zkd X5 (M5 r0 5)).1 = 0 ∧ 0 ≤ x3 ∧ x3 < ((zkd X5 (M5 r0 5)).2 : Int)) (if x2 ≤ (M5 (M5 r0 5) x3) then zex 65 22 [] [(2, r0), (0, x1), (0, x2), (0, x3)] M5 X5 else zg (zkd X5 r0 = (12, 0) ∧ 0 < (M5 r0 5)) (zg ((zkd X5 (M5 r0 5)).1 = 0 ∧ 0 ≤ x3 ∧ x3 < ((zkd X5 (M5 r0 5)).2 : Int)) (zex 65 22 [] [(2, r0), (0, x1), (0, (M5 (M5 r0 5) x3)), (0, x3)] M5 X5)))) else zex 65 22 [] [(2, r0), (0, x1), (0, x2), (0, x3)] M5 X5)) :=
  (zblk 65 zc65 rfl [4, 22, 42, 52, 54, 69] 71 4 _ _ _ _).trans rfl
-- yX6_advance
theorem q65_22 (r0 : Int) (x1 : Int) (x2 : Int) (x3 : Int) (M : zM) (X : zX) : zex 65 22 [] [(2, r0), (0, x1), (0, x2), (0, x3)] M X = zg (zI (x3 + (1 : Int))) (zex 65 4 [] [(2, r0), (0, x1), (0, x2), (0, (x3 + (1 : Int)))] M X) :=
  (zblk 65 zc65 rfl [4, 22, 42, 52, 54, 69] 71 22 _ _ _ _).trans rfl
-- yX6_advance
theorem q65_42 (r0 : Int) (x1 : Int) (x2 : Int) (x3 : Int) (M : zM) (X : zX) : zex 65 42 [] [(2, r0), (0, x1), (0, x2), (0, x3)] M X = zg (zkd X r0 = (12, 0) ∧ 0 < (M r0 2)) (zg (zkd X (M r0 2) = (11, 0)) (zg (zkd X r0 = (12, 0)) (zg (zI (x2 * (M r0 8))) (zg (zI ((M (M r0 2) 4) + (x2 * (M r0 8)))) (zg (zkd X (M r0 2) = (11, 0)) (zex 65 52 [] [(2, r0), (0, x1), (0, x2), (0, x3)] (zu M (M r0 2) 4 ((M (M r0 2) 4) + (x2 * (M r0 8)))) X)))))) :=
  (zblk 65 zc65 rfl [4, 22, 42, 52, 54, 69] 71 42 _ _ _ _).trans rfl
-- yX6_advance
theorem q65_52 (r0 : Int) (x1 : Int) (x2 : Int) (x3 : Int) (M : zM) (X : zX) : zex 65 52 [] [(2, r0), (0, x1), (0, x2), (0, x3)] M X = zex 65 54 [] [(2, r0), (0, x1), (0, x2), (0, (0 : Int))] M X :=
  (zblk 65 zc65 rfl [4, 22, 42, 52, 54, 69] 71 52 _ _ _ _).trans rfl
-- yX6_advance
theorem q65_54 (r0 : Int) (x1 : Int) (x2 : Int) (x3 : Int) (M : zM) (X : zX) : zex 65 54 [] [(2, r0), (0, x1), (0, x2), (0, x3)] M X = if (3 : Int) ≤ x3 then zg (zkd X r0 = (12, 0)) (zg (zI ((M r0 6) + x2)) (zg (zkd X r0 = (12, 0)) (zex 65 69 [] [(2, r0), (0, x1), (0, x2), (0, x3)] (zu M r0 6 ((M r0 6) + x2)) X))) else zg (zkd X r0 = (12, 0)) (zbN (zex 67 0 [] [(2, r0), (0, x3), (0, x2)] M X) (fun M1 X1 => zg (zI (x3 + (1 : Int))) (zex 65 54 [] [(2, r0), (0, x1), (0, x2), (0, (x3 + (1 : Int)))] M1 X1))) :=
  (zblk 65 zc65 rfl [4, 22, 42, 52, 54, 69] 71 54 _ _ _ _).trans rfl
-- yX6_advance
theorem q65_69 (r0 : Int) (x1 : Int) (x2 : Int) (x3 : Int) (M : zM) (X : zX) : zex 65 69 [] [(2, r0), (0, x1), (0, x2), (0, x3)] M X = some ((9, 0), M, X) :=
  (zblk 65 zc65 rfl [4, 22, 42, 52, 54, 69] 71 69 _ _ _ _).trans rfl
-- yX6_turnOf
theorem q66_0 (r0 : Int) (x1 : Int) (M : zM) (X : zX) : zex 66 0 [] [(2, r0), (0, x1)] M X = zg (zkd X r0 = (12, 0)) (zbI (zex 62 0 [] [(2, r0), (0, x1)] M X) (fun v1 M1 X1 => if v1 = 0 then zg (zkd X1 r0 = (12, 0) ∧ 0 < (M1 r0 3)) (zg ((zkd X1 (M1 r0 3)).1 = 5 ∧ 0 ≤ x1 ∧ x1 < ((zkd X1 (M1 r0 3)).2 : Int) ∧ 0 < (M1 (M1 r0 3) x1)) (zg (zkd X1 r0 = (12, 0) ∧ 0 < (M1 r0 4)) (zg ((zkd X1 (M1 r0 4)).1 = 0 ∧ 0 ≤ x1 ∧ x1 < ((zkd X1 (M1 r0 4)).2 : Int)) (zg ((zkd X1 (M1 (M1 r0 3) x1)).1 = 0 ∧ 0 ≤ (M1 (M1 r0 4) x1) ∧ (M1 (M1 r0 4) x1) < ((zkd X1 (M1 (M1 r0 3) x1)).2 : Int)) (if (M1 (M1 (M1 r0 3) x1) (M1 (M1 r0 4) x1)) = (0 : Int) then some ((0, (1 : Int)), M1, X1) else if (M1 (M1 (M1 r0 3) x1) (M1 (M1 r0 4) x1)) = (1 : Int) then some ((0, (-1 : Int)), M1, X1) else some ((0, (0 : Int)), M1, X1)))))) else some ((0, (0 : Int)), M1, X1))) :=
  (zblk 66 zc66 rfl [] 23 0 _ _ _ _).trans rfl
-- yX6_give
theorem q67_0 (r0 : Int) (x1 : Int) (x2 : Int) (M : zM) (X : zX) : zex 67 0 [] [(2, r0), (0, x1), (0, x2)] M X = zg (zkd X r0 = (12, 0) ∧ 0 < (M r0 7)) (zg ((zkd X (M r0 7)).1 = 2 ∧ 0 ≤ x1 ∧ x1 < ((zkd X (M r0 7)).2 : Int) ∧ ((0 : Int) = 0 ∨ (0 : Int) = 1)) (zex 67 5 [] [(2, r0), (0, x1), (0, x2)] (zu M (M r0 7) x1 (0 : Int)) X)) :=
  (zblk 67 zc67 rfl [5, 18, 28, 37] 39 0 _ _ _ _).trans rfl
-- yX6_give
theorem q67_5 (r0 : Int) (x1 : Int) (x2 : Int) (M : zM) (X : zX) : zex 67 5 [] [(2, r0), (0, x1), (0, x2)] M X = zg (zkd X r0 = (12, 0)) (zbI (zex 62 0 [] [(2, r0), (0, x1)] M X) (fun v1 M1 X1 => if v1 = 0 then zg (zkd X1 r0 = (12, 0) ∧ 0 < (M1 r0 5)) (zg ((zkd X1 (M1 r0 5)).1 = 0 ∧ 0 ≤ x1 ∧ x1 < ((zkd X1 (M1 r0 5)).2 : Int)) (zg (zI ((M1 (M1 r0 5) x1) - x2)) (zg ((zkd X1 (M1 r0 5)).1 = 0 ∧ 0 ≤ x1 ∧ x1 < ((zkd X1 (M1 r0 5)).2 : Int)) (zex 67 18 [] [(2, r0), (0, x1), (0, x2)] (zu M1 (M1 r0 5) x1 ((M1 (M1 r0 5) x1) - x2)) X1)))) else some ((9, 0), M1, X1))) :=
  (zblk 67 zc67 rfl [5, 18, 28, 37] 39 5 _ _ _ _).trans rfl
-- yX6_give
theorem q67_18 (r0 : Int) (x1 : Int) (x2 : Int) (M : zM) (X : zX) : zex 67 18 [] [(2, r0), (0, x1), (0, x2)] M X = zg (zkd X r0 = (12, 0) ∧ 0 < (M r0 5)) (zg ((zkd X (M r0 5)).1 = 0 ∧ 0 ≤ x1 ∧ x1 < ((zkd X (M r0 5)).2 : Int)) (if 0 < (M (M r0 5) x1) then zex 67 37 [] [(2, r0), (0, x1), (0, x2)] M X else zg (zkd X r0 = (12, 0) ∧ 0 < (M r0 7)) (zg ((zkd X (M r0 7)).1 = 2 ∧ 0 ≤ x1 ∧ x1 < ((zkd X (M r0 7)).2 : Int) ∧ ((1 : Int) = 0 ∨ (1 : Int) = 1)) (zex 67 28 [] [(2, r0), (0, x1), (0, x2)] (zu M (M r0 7) x1 (1 : Int)) X)))) :=
  (zblk 67 zc67 rfl [5, 18, 28, 37] 39 18 _ _ _ _).trans rfl
-- yX6_give
theorem q67_28 (r0 : Int) (x1 : Int) (x2 : Int) (M : zM) (X : zX) : zex 67 28 [] [(2, r0), (0, x1), (0, x2)] M X = zg (zkd X r0 = (12, 0) ∧ 0 < (M r0 4)) (zg ((zkd X (M r0 4)).1 = 0 ∧ 0 ≤ x1 ∧ x1 < ((zkd X (M r0 4)).2 : Int)) (zg (zI ((M (M r0 4) x1) + (1 : Int))) (zg (zkd X r0 = (12, 0)) (zbN (zex 68 0 [] [(2, r0), (0, x1), (0, ((M (M r0 4) x1) + (1 : Int))), (9, 0)] M X) (fun M1 X1 => zex 67 37 [] [(2, r0), (0, x1), (0, x2)] M1 X1))))) :=
  (zblk 67 zc67 rfl [5, 18, 28, 37] 39 28 _ _ _ _).trans rfl
-- yX6_give
theorem q67_37 (r0 : Int) (x1 : Int) (x2 : Int) (M : zM) (X : zX) : zex 67 37 [] [(2, r0), (0, x1), (0, x2)] M X = some ((9, 0), M, X) :=
  (zblk 67 zc67 rfl [5, 18, 28, 37] 39 37 _ _ _ _).trans rfl
-- yX6_goToSegment
set_option maxRecDepth 20000 in
theorem q68_0 (r0 : Int) (x1 : Int) (x2 : Int) (d3 : zV) (M : zM) (X : zX) : zex 68 0 [] [(2, r0), (0, x1), (0, x2), d3] M X = zg (zkd X r0 = (12, 0) ∧ 0 < (M r0 0)) (zg (zkd X (M r0 0) = (6, 0) ∧ 0 < (M (M r0 0) 0)) (zg ((zkd X (M (M r0 0) 0)).1 = 3 ∧ 0 ≤ x1 ∧ x1 < ((zkd X (M (M r0 0) 0)).2 : Int) ∧ 0 < (M (M (M r0 0) 0) x1)) (zg (zkd X r0 = (12, 0) ∧ 0 < (M r0 4)) (zg ((zkd X (M r0 4)).1 = 0 ∧ 0 ≤ x1 ∧ x1 < ((zkd X (M r0 4)).2 : Int)) (zg (zkd X r0 = (12, 0) ∧ 0 < ((zu M (M r0 4) x1 x2) r0 5)) (if x2 < 0 then zex 68 25 [(0, x1), (2, ((zu M (M r0 4) x1 x2) r0 5))] [(2, r0), (0, x1), (0, x2), (2, (M (M (M r0 0) 0) x1))] (zu M (M r0 4) x1 x2) X else zg (zkd X (M (M (M r0 0) 0) x1) = (7, 0)) (if ((zu M (M r0 4) x1 x2) (M (M (M r0 0) 0) x1) 0) ≤ x2 then zex 68 25 [(0, x1), (2, ((zu M (M r0 4) x1 x2) r0 5))] [(2, r0), (0, x1), (0, x2), (2, (M (M (M r0 0) 0) x1))] (zu M (M r0 4) x1 x2) X else zg (zkd X (M (M (M r0 0) 0) x1) = (7, 0) ∧ 0 < ((zu M (M r0 4) x1 x2) (M (M (M r0 0) 0) x1) 2)) (zg ((zkd X ((zu M (M r0 4) x1 x2) (M (M (M r0 0) 0) x1) 2)).1 = 0 ∧ 0 ≤ x2 ∧ x2 < ((zkd X ((zu M (M r0 4) x1 x2) (M (M (M r0 0) 0) x1) 2)).2 : Int)) (zex 68 26 [(0, ((zu M (M r0 4) x1 x2) ((zu M (M r0 4) x1 x2) (M (M (M r0 0) 0) x1) 2) x2)), (0, x1), (2, ((zu M (M r0 4) x1 x2) r0 5))] [(2, r0), (0, x1), (0, x2), (2, (M (M (M r0 0) 0) x1))] (zu M (M r0 4) x1 x2) X))))))))) :=
  (zblk 68 zc68 rfl [25, 26] 29 0 _ _ _ _).trans rfl
-- yX6_goToSegment
theorem q68_25 (s0 : Int) (s1 : Int) (r0 : Int) (x1 : Int) (x2 : Int) (r3 : Int) (M : zM) (X : zX) : zex 68 25 [(0, s1), (2, s0)] [(2, r0), (0, x1), (0, x2), (2, r3)] M X = zex 68 26 [(0, (0 : Int)), (0, s1), (2, s0)] [(2, r0), (0, x1), (0, x2), (2, r3)] M X :=
  (zblk 68 zc68 rfl [25, 26] 29 25 _ _ _ _).trans rfl
-- yX6_goToSegment
theorem q68_26 (s0 : Int) (s1 : Int) (s2 : Int) (r0 : Int) (x1 : Int) (x2 : Int) (r3 : Int) (M : zM) (X : zX) : zex 68 26 [(0, s2), (0, s1), (2, s0)] [(2, r0), (0, x1), (0, x2), (2, r3)] M X = zg ((zkd X s0).1 = 0 ∧ 0 ≤ s1 ∧ s1 < ((zkd X s0).2 : Int)) (some ((9, 0), (zu M s0 s1 s2), X)) :=
  (zblk 68 zc68 rfl [25, 26] 29 26 _ _ _ _).trans rfl
-- yX7_init
theorem q69_0 (r0 : Int) (M : zM) (X : zX) : zex 69 0 [] [(2, r0)] M X = zg (1 ≤ X.2.1 ∧ 5 ≤ X.2.2) (zg (zkd (X.1 ++ [(11, 0)], X.2.1 - 1, X.2.2 - 5) ((X.1.length : Int) + 1) = (11, 0)) (zbN (zex 50 0 [] [(2, ((X.1.length : Int) + 1))] (zclr M ((X.1.length : Int) + 1)) (X.1 ++ [(11, 0)], X.2.1 - 1, X.2.2 - 5)) (fun M1 X1 => zg (zkd X1 r0 = (13, 0)) (zex 69 7 [] [(2, r0)] (zu M1 r0 1 ((X.1.length : Int) + 1)) X1)))) :=
  (zblk 69 zc69 rfl [7, 12, 17] 19 0 _ _ _ _).trans rfl
-- yX7_init
theorem q69_7 (r0 : Int) (M : zM) (X : zX) : zex 69 7 [] [(2, r0)] M X = zg (0 ≤ (4 : Int) ∧ (4 : Int) ≤ 1024 ∧ 0 ≤ (60 : Int) ∧ (60 : Int) ≤ 1024 ∧ 1 + Int.toNat (4 : Int) ≤ X.2.1 ∧ Int.toNat (4 : Int) + Int.toNat (4 : Int) * Int.toNat (60 : Int) ≤ X.2.2) (zg (zkd (X.1 ++ (5, Int.toNat (4 : Int)) :: List.replicate (Int.toNat (4 : Int)) (0, Int.toNat (60 : Int)), X.2.1 - (1 + Int.toNat (4 : Int)), X.2.2 - (Int.toNat (4 : Int) + Int.toNat (4 : Int) * Int.toNat (60 : Int))) r0 = (13, 0)) (zex 69 12 [] [(2, r0)] (zu (zmul M ((X.1.length : Int) + 1) (4 : Int)) r0 3 ((X.1.length : Int) + 1)) (X.1 ++ (5, Int.toNat (4 : Int)) :: List.replicate (Int.toNat (4 : Int)) (0, Int.toNat (60 : Int)), X.2.1 - (1 + Int.toNat (4 : Int)), X.2.2 - (Int.toNat (4 : Int) + Int.toNat (4 : Int) * Int.toNat (60 : Int))))) :=
  (zblk 69 zc69 rfl [7, 12, 17] 19 7 _ _ _ _).trans rfl
-- yX7_init
theorem q69_12 (r0 : Int) (M : zM) (X : zX) : zex 69 12 [] [(2, r0)] M X = zg (0 ≤ (3 : Int) ∧ (3 : Int) ≤ 1024 ∧ 0 ≤ (20 : Int) ∧ (20 : Int) ≤ 1024 ∧ 1 + Int.toNat (3 : Int) ≤ X.2.1 ∧ Int.toNat (3 : Int) + Int.toNat (3 : Int) * Int.toNat (20 : Int) ≤ X.2.2) (zg (zkd (X.1 ++ (5, Int.toNat (3 : Int)) :: List.replicate (Int.toNat (3 : Int)) (0, Int.toNat (20 : Int)), X.2.1 - (1 + Int.toNat (3 : Int)), X.2.2 - (Int.toNat (3 : Int) + Int.toNat (3 : Int) * Int.toNat (20 : Int))) r0 = (13, 0)) (zex 69 17 [] [(2, r0)] (zu (zmul M ((X.1.length : Int) + 1) (3 : Int)) r0 5 ((X.1.length : Int) + 1)) (X.1 ++ (5, Int.toNat (3 : Int)) :: List.replicate (Int.toNat (3 : Int)) (0, Int.toNat (20 : Int)), X.2.1 - (1 + Int.toNat (3 : Int)), X.2.2 - (Int.toNat (3 : Int) + Int.toNat (3 : Int) * Int.toNat (20 : Int))))) :=
  (zblk 69 zc69 rfl [7, 12, 17] 19 12 _ _ _ _).trans rfl
-- yX7_init
theorem q69_17 (r0 : Int) (M : zM) (X : zX) : zex 69 17 [] [(2, r0)] M X = some ((9, 0), M, X) :=
  (zblk 69 zc69 rfl [7, 12, 17] 19 17 _ _ _ _).trans rfl
-- yX7_play
theorem q70_0 (r0 : Int) (r1 : Int) (r2 : Int) (r3 : Int) (d4 : zV) (d5 : zV) (d6 : zV) (M : zM) (X : zX) : zex 70 0 [] [(2, r0), (2, r1), (2, r2), (2, r3), d4, d5, d6] M X = zg (zkd X r0 = (13, 0)) (zex 70 3 [] [(2, r0), (2, r1), (2, r2), (2, r3), d4, d5, d6] (zu M r0 4 (0 : Int)) X) :=
  (zblk 70 zc70 rfl [3, 6, 9, 16, 44, 57, 66, 67, 75] 79 0 _ _ _ _).trans rfl
-- yX7_play
theorem q70_3 (r0 : Int) (r1 : Int) (r2 : Int) (r3 : Int) (d4 : zV) (d5 : zV) (d6 : zV) (M : zM) (X : zX) : zex 70 3 [] [(2, r0), (2, r1), (2, r2), (2, r3), d4, d5, d6] M X = zg (zkd X r0 = (13, 0)) (zex 70 6 [] [(2, r0), (2, r1), (2, r2), (2, r3), d4, d5, d6] (zu M r0 6 (0 : Int)) X) :=
  (zblk 70 zc70 rfl [3, 6, 9, 16, 44, 57, 66, 67, 75] 79 3 _ _ _ _).trans rfl
-- yX7_play
theorem q70_6 (r0 : Int) (r1 : Int) (r2 : Int) (r3 : Int) (d4 : zV) (d5 : zV) (d6 : zV) (M : zM) (X : zX) : zex 70 6 [] [(2, r0), (2, r1), (2, r2), (2, r3), d4, d5, d6] M X = zg (zkd X r0 = (13, 0)) (zex 70 9 [] [(2, r0), (2, r1), (2, r2), (2, r3), d4, d5, d6] (zu M r0 7 (0 : Int)) X) :=
  (zblk 70 zc70 rfl [3, 6, 9, 16, 44, 57, 66, 67, 75] 79 6 _ _ _ _).trans rfl
-- yX7_play
theorem q70_9 (r0 : Int) (r1 : Int) (r2 : Int) (r3 : Int) (d4 : zV) (d5 : zV) (d6 : zV) (M : zM) (X : zX) : zex 70 9 [] [(2, r0), (2, r1), (2, r2), (2, r3), d4, d5, d6] M X = zg (zkd X r1 = (12, 0)) (zbN (zex 60 0 [] [(2, r1), (9, 0)] M X) (fun M1 X1 => zg (zkd X1 r1 = (12, 0)) (zbN (zex 61 0 [] [(2, r1), (9, 0)] M1 X1) (fun M2 X2 => zg (zkd X2 r0 = (13, 0)) (zex 70 16 [] [(2, r0), (2, r1), (2, r2), (2, r3), d4, d5, d6] (zu M2 r0 2 (0 : Int)) X2))))) :=
  (zblk 70 zc70 rfl [3, 6, 9, 16, 44, 57, 66, 67, 75] 79 9 _ _ _ _).trans rfl
-- yX7_play
theorem q70_16 (r0 : Int) (r1 : Int) (r2 : Int) (r3 : Int) (d4 : zV) (d5 : zV) (d6 : zV) (M : zM) (X : zX) : zex 70 16 [] [(2, r0), (2, r1), (2, r2), (2, r3), d4, d5, d6] M X = zg (zkd X r0 = (13, 0)) (if (9999 : Int) ≤ (M r0 2) then zex 70 67 [] [(2, r0), (2, r1), (2, r2), (2, r3), d4, d5, d6] M X else zg (zkd X r1 = (12, 0)) (zg (zkd X r2 = (15, 0)) (if (M r2 3) ≤ (M r1 6) then zex 70 67 [] [(2, r0), (2, r1), (2, r2), (2, r3), d4, d5, d6] M X else zg (zkd X r1 = (12, 0)) (zbI (zex 63 0 [] [(2, r1)] M X) (fun v1 M1 X1 => if v1 = 0 then zg (zkd X1 r0 = (13, 0)) (zg (zkd X1 r2 = (15, 0)) (zbI (zex 83 0 [] [(2, r2), (0, (M1 r0 2))] M1 X1) (fun v2 M2 X2 => zg (zkd X2 r2 = (15, 0)) (zg (zkd X2 r1 = (12, 0)) (zg (zI ((M2 r1 6) + v2)) (zbI (zex 221 0 [] [(0, (M2 r2 3)), (0, ((M2 r1 6) + v2))] M2 X2) (fun v3 M3 X3 => zg (zkd X3 r1 = (12, 0)) (zex 70 44 [] [(2, r0), (2, r1), (2, r2), (2, r3), (0, v2), (0, v3), (0, (M3 r1 6))] M3 X3)))))))) else zex 70 67 [] [(2, r0), (2, r1), (2, r2), (2, r3), d4, d5, d6] M1 X1))))) :=
  (zblk 70 zc70 rfl [3, 6, 9, 16, 44, 57, 66, 67, 75] 79 16 _ _ _ _).trans rfl
-- yX7_play
theorem q70_44 (r0 : Int) (r1 : Int) (r2 : Int) (r3 : Int) (x4 : Int) (x5 : Int) (x6 : Int) (M : zM) (X : zX) : zex 70 44 [] [(2, r0), (2, r1), (2, r2), (2, r3), (0, x4), (0, x5), (0, x6)] M X = if x5 ≤ x6 then zg (zkd X r0 = (13, 0)) (zg (zI ((M r0 2) + (1 : Int))) (zg (zkd X r0 = (13, 0)) (zex 70 66 [] [(2, r0), (2, r1), (2, r2), (2, r3), (0, x4), (0, x5), (0, x6)] (zu M r0 2 ((M r0 2) + (1 : Int))) X))) else zg (zkd X r2 = (15, 0)) (if x4 ≤ (M r2 2) then zex 70 57 [(0, (0 : Int)), (2, r3), (2, r1), (2, r0)] [(2, r0), (2, r1), (2, r2), (2, r3), (0, x4), (0, x5), (0, x6)] M X else zex 70 57 [(0, (1 : Int)), (2, r3), (2, r1), (2, r0)] [(2, r0), (2, r1), (2, r2), (2, r3), (0, x4), (0, x5), (0, x6)] M X) :=
  (zblk 70 zc70 rfl [3, 6, 9, 16, 44, 57, 66, 67, 75] 79 44 _ _ _ _).trans rfl
-- yX7_play
theorem q70_57 (s0 : Int) (s1 : Int) (s2 : Int) (s3 : Int) (r0 : Int) (r1 : Int) (r2 : Int) (r3 : Int) (x4 : Int) (x5 : Int) (x6 : Int) (M : zM) (X : zX) : zex 70 57 [(0, s3), (2, s2), (2, s1), (2, s0)] [(2, r0), (2, r1), (2, r2), (2, r3), (0, x4), (0, x5), (0, x6)] M X = zg (zkd X s0 = (13, 0)) (zbN (zex 71 0 [] [(2, s0), (2, s1), (2, s2), (0, s3), (9, 0)] M X) (fun M1 X1 => zg (zI (x6 + (1 : Int))) (zex 70 44 [] [(2, r0), (2, r1), (2, r2), (2, r3), (0, x4), (0, x5), (0, (x6 + (1 : Int)))] M1 X1))) :=
  (zblk 70 zc70 rfl [3, 6, 9, 16, 44, 57, 66, 67, 75] 79 57 _ _ _ _).trans rfl
-- yX7_play
theorem q70_66 (r0 : Int) (r1 : Int) (r2 : Int) (r3 : Int) (x4 : Int) (x5 : Int) (x6 : Int) (M : zM) (X : zX) : zex 70 66 [] [(2, r0), (2, r1), (2, r2), (2, r3), (0, x4), (0, x5), (0, x6)] M X = zex 70 16 [] [(2, r0), (2, r1), (2, r2), (2, r3), (0, x4), (0, x5), (0, x6)] M X :=
  (zblk 70 zc70 rfl [3, 6, 9, 16, 44, 57, 66, 67, 75] 79 66 _ _ _ _).trans rfl
-- yX7_play
theorem q70_67 (r0 : Int) (r1 : Int) (r2 : Int) (r3 : Int) (d4 : zV) (d5 : zV) (d6 : zV) (M : zM) (X : zX) : zex 70 67 [] [(2, r0), (2, r1), (2, r2), (2, r3), d4, d5, d6] M X = zg (zkd X r0 = (13, 0) ∧ 0 < (M r0 1)) (zg (zkd X r1 = (12, 0) ∧ 0 < (M r1 2)) (zg (zkd X (M r0 1) = (11, 0)) (zbN (zex 52 0 [] [(2, (M r0 1)), (2, (M r1 2))] M X) (fun M1 X1 => zg (zkd X1 r0 = (13, 0) ∧ ((1 : Int) = 0 ∨ (1 : Int) = 1)) (zex 70 75 [] [(2, r0), (2, r1), (2, r2), (2, r3), d4, d5, d6] (zu M1 r0 0 (1 : Int)) X1))))) :=
  (zblk 70 zc70 rfl [3, 6, 9, 16, 44, 57, 66, 67, 75] 79 67 _ _ _ _).trans rfl
-- yX7_play
theorem q70_75 (r0 : Int) (r1 : Int) (r2 : Int) (r3 : Int) (d4 : zV) (d5 : zV) (d6 : zV) (M : zM) (X : zX) : zex 70 75 [] [(2, r0), (2, r1), (2, r2), (2, r3), d4, d5, d6] M X = zg (zkd X r1 = (12, 0)) (some ((0, (M r1 6)), M, X)) :=
  (zblk 70 zc70 rfl [3, 6, 9, 16, 44, 57, 66, 67, 75] 79 75 _ _ _ _).trans rfl
-- yX7_playUnit
theorem q71_0 (r0 : Int) (r1 : Int) (r2 : Int) (x3 : Int) (d4 : zV) (M : zM) (X : zX) : zex 71 0 [] [(2, r0), (2, r1), (2, r2), (0, x3), d4] M X = zg (zkd X r1 = (12, 0)) (zbN (zex 65 0 [] [(2, r1), (0, (1 : Int)), (9, 0), (9, 0)] M X) (fun M1 X1 => zg (zkd X1 r0 = (13, 0)) (zbN (zex 72 0 [] [(2, r0), (2, r1), (9, 0)] M1 X1) (fun M2 X2 => zg (zkd X2 r1 = (12, 0) ∧ 0 < (M2 r1 2)) (zg (zkd X2 (M2 r1 2) = (11, 0)) (zbI (zex 53 0 [] [(2, (M2 r1 2))] M2 X2) (fun v3 M3 X3 => zg (zkd X3 r1 = (12, 0) ∧ 0 < (M3 r1 2)) (zg (zkd X3 (M3 r1 2) = (11, 0)) (zbI (zex 54 0 [] [(2, (M3 r1 2))] M3 X3) (fun v4 M4 X4 => zg (zkd X4 r2 = (9, 0)) (zbI (zex 36 0 [] [(2, r2), (0, v3), (0, v4)] M4 X4) (fun v5 M5 X5 => if v5 = 0 then zg (zkd X5 r0 = (13, 0)) (zg (zI ((M5 r0 7) + (1 : Int))) (zg (zkd X5 r0 = (13, 0)) (zex 71 21 [] [(2, r0), (2, r1), (2, r2), (0, x3), d4] (zu M5 r0 7 ((M5 r0 7) + (1 : Int))) X5))) else zex 71 21 [] [(2, r0), (2, r1), (2, r2), (0, x3), d4] M5 X5)))))))))))) :=
  (zblk 71 zc71 rfl [21, 23, 34] 36 0 _ _ _ _).trans rfl
-- yX7_playUnit
theorem q71_21 (r0 : Int) (r1 : Int) (r2 : Int) (x3 : Int) (d4 : zV) (M : zM) (X : zX) : zex 71 21 [] [(2, r0), (2, r1), (2, r2), (0, x3), d4] M X = zex 71 23 [] [(2, r0), (2, r1), (2, r2), (0, x3), (0, (0 : Int))] M X :=
  (zblk 71 zc71 rfl [21, 23, 34] 36 21 _ _ _ _).trans rfl
-- yX7_playUnit
theorem q71_23 (r0 : Int) (r1 : Int) (r2 : Int) (x3 : Int) (x4 : Int) (M : zM) (X : zX) : zex 71 23 [] [(2, r0), (2, r1), (2, r2), (0, x3), (0, x4)] M X = if (3 : Int) ≤ x4 then zex 71 34 [] [(2, r0), (2, r1), (2, r2), (0, x3), (0, x4)] M X else if x3 = 0 then zex 71 34 [] [(2, r0), (2, r1), (2, r2), (0, x3), (0, x4)] M X else zg (zkd X r0 = (13, 0)) (zbN (zex 73 0 [] [(2, r0), (2, r1), (0, x4), (9, 0), (9, 0)] M X) (fun M1 X1 => zg (zI (x4 + (1 : Int))) (zex 71 23 [] [(2, r0), (2, r1), (2, r2), (0, x3), (0, (x4 + (1 : Int)))] M1 X1))) :=
  (zblk 71 zc71 rfl [21, 23, 34] 36 23 _ _ _ _).trans rfl
-- yX7_playUnit
theorem q71_34 (r0 : Int) (r1 : Int) (r2 : Int) (x3 : Int) (x4 : Int) (M : zM) (X : zX) : zex 71 34 [] [(2, r0), (2, r1), (2, r2), (0, x3), (0, x4)] M X = some ((9, 0), M, X) :=
  (zblk 71 zc71 rfl [21, 23, 34] 36 34 _ _ _ _).trans rfl
-- yX7_noteAct
theorem q72_0 (r0 : Int) (r1 : Int) (d2 : zV) (M : zM) (X : zX) : zex 72 0 [] [(2, r0), (2, r1), d2] M X = zg (zkd X r1 = (12, 0)) (if (M r1 8) = 0 then zex 72 11 [(0, (0 : Int))] [(2, r0), (2, r1), d2] M X else zg (zkd X r1 = (12, 0) ∧ 0 < (M r1 0)) (zg (zkd X r1 = (12, 0) ∧ 0 < (M r1 2)) (zg (zkd X (M r1 2) = (11, 0)) (zg (zkd X (M r1 0) = (6, 0)) (zbI (zex 3 0 [] [(2, (M r1 0)), (0, (M (M r1 2) 4))] M X) (fun v1 M1 X1 => zex 72 11 [(0, v1)] [(2, r0), (2, r1), d2] M1 X1)))))) :=
  (zblk 72 zc72 rfl [11, 18, 27, 36, 46, 56, 62] 64 0 _ _ _ _).trans rfl
-- yX7_noteAct
theorem q72_11 (s0 : Int) (r0 : Int) (r1 : Int) (d2 : zV) (M : zM) (X : zX) : zex 72 11 [(0, s0)] [(2, r0), (2, r1), d2] M X = if s0 = 0 then zex 72 18 [] [(2, r0), (2, r1), (0, s0)] M X else zg (zkd X r0 = (13, 0)) (if (M r0 4) < (60 : Int) then zg (zkd X r0 = (13, 0) ∧ 0 < (M r0 3)) (zg ((zkd X (M r0 3)).1 = 5 ∧ 0 ≤ (0 : Int) ∧ (0 : Int) < ((zkd X (M r0 3)).2 : Int) ∧ 0 < (M (M r0 3) (0 : Int))) (zg (zkd X r0 = (13, 0)) (zg ((zkd X (M (M r0 3) (0 : Int))).1 = 0 ∧ 0 ≤ (M r0 4) ∧ (M r0 4) < ((zkd X (M (M r0 3) (0 : Int))).2 : Int)) (zex 72 27 [] [(2, r0), (2, r1), (0, s0)] (zu M (M (M r0 3) (0 : Int)) (M r0 4) s0) X)))) else zex 72 18 [] [(2, r0), (2, r1), (0, s0)] M X) :=
  (zblk 72 zc72 rfl [11, 18, 27, 36, 46, 56, 62] 64 11 _ _ _ _).trans rfl
-- yX7_noteAct
theorem q72_18 (r0 : Int) (r1 : Int) (x2 : Int) (M : zM) (X : zX) : zex 72 18 [] [(2, r0), (2, r1), (0, x2)] M X = some ((9, 0), M, X) :=
  (zblk 72 zc72 rfl [11, 18, 27, 36, 46, 56, 62] 64 18 _ _ _ _).trans rfl
-- yX7_noteAct
theorem q72_27 (r0 : Int) (r1 : Int) (x2 : Int) (M : zM) (X : zX) : zex 72 27 [] [(2, r0), (2, r1), (0, x2)] M X = zg (zkd X r0 = (13, 0) ∧ 0 < (M r0 3)) (zg ((zkd X (M r0 3)).1 = 5 ∧ 0 ≤ (1 : Int) ∧ (1 : Int) < ((zkd X (M r0 3)).2 : Int) ∧ 0 < (M (M r0 3) (1 : Int))) (zg (zkd X r0 = (13, 0)) (zg (zkd X r1 = (12, 0)) (zg ((zkd X (M (M r0 3) (1 : Int))).1 = 0 ∧ 0 ≤ (M r0 4) ∧ (M r0 4) < ((zkd X (M (M r0 3) (1 : Int))).2 : Int)) (zex 72 36 [] [(2, r0), (2, r1), (0, x2)] (zu M (M (M r0 3) (1 : Int)) (M r0 4) (M r1 6)) X))))) :=
  (zblk 72 zc72 rfl [11, 18, 27, 36, 46, 56, 62] 64 27 _ _ _ _).trans rfl
-- yX7_noteAct
theorem q72_36 (r0 : Int) (r1 : Int) (x2 : Int) (M : zM) (X : zX) : zex 72 36 [] [(2, r0), (2, r1), (0, x2)] M X = zg (zkd X r0 = (13, 0) ∧ 0 < (M r0 3)) (zg ((zkd X (M r0 3)).1 = 5 ∧ 0 ≤ (2 : Int) ∧ (2 : Int) < ((zkd X (M r0 3)).2 : Int) ∧ 0 < (M (M r0 3) (2 : Int))) (zg (zkd X r0 = (13, 0)) (zg (zkd X r1 = (12, 0) ∧ 0 < (M r1 2)) (zg (zkd X (M r1 2) = (11, 0)) (zbI (zex 53 0 [] [(2, (M r1 2))] M X) (fun v1 M1 X1 => zg ((zkd X1 (M (M r0 3) (2 : Int))).1 = 0 ∧ 0 ≤ (M r0 4) ∧ (M r0 4) < ((zkd X1 (M (M r0 3) (2 : Int))).2 : Int)) (zex 72 46 [] [(2, r0), (2, r1), (0, x2)] (zu M1 (M (M r0 3) (2 : Int)) (M r0 4) v1) X1))))))) :=
  (zblk 72 zc72 rfl [11, 18, 27, 36, 46, 56, 62] 64 36 _ _ _ _).trans rfl
-- yX7_noteAct
theorem q72_46 (r0 : Int) (r1 : Int) (x2 : Int) (M : zM) (X : zX) : zex 72 46 [] [(2, r0), (2, r1), (0, x2)] M X = zg (zkd X r0 = (13, 0) ∧ 0 < (M r0 3)) (zg ((zkd X (M r0 3)).1 = 5 ∧ 0 ≤ (3 : Int) ∧ (3 : Int) < ((zkd X (M r0 3)).2 : Int) ∧ 0 < (M (M r0 3) (3 : Int))) (zg (zkd X r0 = (13, 0)) (zg (zkd X r1 = (12, 0) ∧ 0 < (M r1 2)) (zg (zkd X (M r1 2) = (11, 0)) (zbI (zex 54 0 [] [(2, (M r1 2))] M X) (fun v1 M1 X1 => zg ((zkd X1 (M (M r0 3) (3 : Int))).1 = 0 ∧ 0 ≤ (M r0 4) ∧ (M r0 4) < ((zkd X1 (M (M r0 3) (3 : Int))).2 : Int)) (zex 72 56 [] [(2, r0), (2, r1), (0, x2)] (zu M1 (M (M r0 3) (3 : Int)) (M r0 4) v1) X1))))))) :=
  (zblk 72 zc72 rfl [11, 18, 27, 36, 46, 56, 62] 64 46 _ _ _ _).trans rfl
-- yX7_noteAct
theorem q72_56 (r0 : Int) (r1 : Int) (x2 : Int) (M : zM) (X : zX) : zex 72 56 [] [(2, r0), (2, r1), (0, x2)] M X = zg (zkd X r0 = (13, 0)) (zg (zI ((M r0 4) + (1 : Int))) (zg (zkd X r0 = (13, 0)) (zex 72 62 [] [(2, r0), (2, r1), (0, x2)] (zu M r0 4 ((M r0 4) + (1 : Int))) X))) :=
  (zblk 72 zc72 rfl [11, 18, 27, 36, 46, 56, 62] 64 56 _ _ _ _).trans rfl
-- yX7_noteAct
theorem q72_62 (r0 : Int) (r1 : Int) (x2 : Int) (M : zM) (X : zX) : zex 72 62 [] [(2, r0), (2, r1), (0, x2)] M X = some ((9, 0), M, X) :=
  (zblk 72 zc72 rfl [11, 18, 27, 36, 46, 56, 62] 64 62 _ _ _ _).trans rfl
-- yX7_slipOn
set_option maxRecDepth 20000 in
theorem q73_0 (r0 : Int) (r1 : Int) (x2 : Int) (d3 : zV) (d4 : zV) (M : zM) (X : zX) : zex 73 0 [] [(2, r0), (2, r1), (0, x2), d3, d4] M X = zg (zkd X r1 = (12, 0) ∧ 0 < (M r1 0)) (zg (zkd X (M r1 0) = (6, 0) ∧ 0 < (M (M r1 0) 0)) (zg ((zkd X (M (M r1 0) 0)).1 = 3 ∧ 0 ≤ x2 ∧ x2 < ((zkd X (M (M r1 0) 0)).2 : Int) ∧ 0 < (M (M (M r1 0) 0) x2)) (zg (zkd X r1 = (12, 0) ∧ 0 < (M r1 4)) (zg ((zkd X (M r1 4)).1 = 0 ∧ 0 ≤ x2 ∧ x2 < ((zkd X (M r1 4)).2 : Int)) (zg (zkd X r1 = (12, 0) ∧ 0 < (M r1 7)) (zg ((zkd X (M r1 7)).1 = 2 ∧ 0 ≤ x2 ∧ x2 < ((zkd X (M r1 7)).2 : Int)) (if (M (M r1 7) x2) = 0 then zex 73 30 [] [(2, r0), (2, r1), (0, x2), (2, (M (M (M r1 0) 0) x2)), (0, (M (M r1 4) x2))] M X else if (M (M r1 4) x2) < (1 : Int) then zex 73 30 [] [(2, r0), (2, r1), (0, x2), (2, (M (M (M r1 0) 0) x2)), (0, (M (M r1 4) x2))] M X else zg (zkd X (M (M (M r1 0) 0) x2) = (7, 0)) (zbI (zex 9 0 [] [(2, (M (M (M r1 0) 0) x2)), (0, (M (M r1 4) x2))] M X) (fun v1 M1 X1 => if v1 = 0 then zex 73 30 [] [(2, r0), (2, r1), (0, x2), (2, (M (M (M r1 0) 0) x2)), (0, (M (M r1 4) x2))] M1 X1 else zg (zkd X1 (M (M (M r1 0) 0) x2) = (7, 0) ∧ 0 < (M1 (M (M (M r1 0) 0) x2) 3)) (zg (zI ((M (M r1 4) x2) - (1 : Int))) (zg ((zkd X1 (M1 (M (M (M r1 0) 0) x2) 3)).1 = 0 ∧ 0 ≤ ((M (M r1 4) x2) - (1 : Int)) ∧ ((M (M r1 4) x2) - (1 : Int)) < ((zkd X1 (M1 (M (M (M r1 0) 0) x2) 3)).2 : Int)) (if (M1 (M1 (M (M (M r1 0) 0) x2) 3) ((M (M r1 4) x2) - (1 : Int))) = 0 then zex 73 30 [] [(2, r0), (2, r1), (0, x2), (2, (M (M (M r1 0) 0) x2)), (0, (M (M r1 4) x2))] M1 X1 else zg (zkd X1 r1 = (12, 0) ∧ 0 < (M1 r1 3)) (zg ((zkd X1 (M1 r1 3)).1 = 5 ∧ 0 ≤ x2 ∧ x2 < ((zkd X1 (M1 r1 3)).2 : Int) ∧ 0 < (M1 (M1 r1 3) x2)) (zg ((zkd X1 (M1 (M1 r1 3) x2)).1 = 0 ∧ 0 ≤ (M (M r1 4) x2) ∧ (M (M r1 4) x2) < ((zkd X1 (M1 (M1 r1 3) x2)).2 : Int)) (zex 73 38 [] [(2, r0), (2, r1), (0, x2), (2, (M (M (M r1 0) 0) x2)), (0, (M (M r1 4) x2))] (zu M1 (M1 (M1 r1 3) x2) (M (M r1 4) x2) (2 : Int)) X1))))))))))))))) :=
  (zblk 73 zc73 rfl [30, 38, 50, 60, 69, 75] 77 0 _ _ _ _).trans rfl
-- yX7_slipOn
theorem q73_30 (r0 : Int) (r1 : Int) (x2 : Int) (r3 : Int) (x4 : Int) (M : zM) (X : zX) : zex 73 30 [] [(2, r0), (2, r1), (0, x2), (2, r3), (0, x4)] M X = some ((9, 0), M, X) :=
  (zblk 73 zc73 rfl [30, 38, 50, 60, 69, 75] 77 30 _ _ _ _).trans rfl
-- yX7_slipOn
theorem q73_38 (r0 : Int) (r1 : Int) (x2 : Int) (r3 : Int) (x4 : Int) (M : zM) (X : zX) : zex 73 38 [] [(2, r0), (2, r1), (0, x2), (2, r3), (0, x4)] M X = zg (zkd X r0 = (13, 0)) (if (20 : Int) ≤ (M r0 6) then zex 73 69 [] [(2, r0), (2, r1), (0, x2), (2, r3), (0, x4)] M X else zg (zkd X r0 = (13, 0) ∧ 0 < (M r0 5)) (zg ((zkd X (M r0 5)).1 = 5 ∧ 0 ≤ (0 : Int) ∧ (0 : Int) < ((zkd X (M r0 5)).2 : Int) ∧ 0 < (M (M r0 5) (0 : Int))) (zg (zkd X r0 = (13, 0)) (zg ((zkd X (M (M r0 5) (0 : Int))).1 = 0 ∧ 0 ≤ (M r0 6) ∧ (M r0 6) < ((zkd X (M (M r0 5) (0 : Int))).2 : Int)) (zex 73 50 [] [(2, r0), (2, r1), (0, x2), (2, r3), (0, x4)] (zu M (M (M r0 5) (0 : Int)) (M r0 6) x2) X))))) :=
  (zblk 73 zc73 rfl [30, 38, 50, 60, 69, 75] 77 38 _ _ _ _).trans rfl
-- yX7_slipOn
theorem q73_50 (r0 : Int) (r1 : Int) (x2 : Int) (r3 : Int) (x4 : Int) (M : zM) (X : zX) : zex 73 50 [] [(2, r0), (2, r1), (0, x2), (2, r3), (0, x4)] M X = zg (zkd X r0 = (13, 0) ∧ 0 < (M r0 5)) (zg ((zkd X (M r0 5)).1 = 5 ∧ 0 ≤ (1 : Int) ∧ (1 : Int) < ((zkd X (M r0 5)).2 : Int) ∧ 0 < (M (M r0 5) (1 : Int))) (zg (zkd X r0 = (13, 0)) (zg (zI (x4 - (1 : Int))) (zg ((zkd X (M (M r0 5) (1 : Int))).1 = 0 ∧ 0 ≤ (M r0 6) ∧ (M r0 6) < ((zkd X (M (M r0 5) (1 : Int))).2 : Int)) (zex 73 60 [] [(2, r0), (2, r1), (0, x2), (2, r3), (0, x4)] (zu M (M (M r0 5) (1 : Int)) (M r0 6) (x4 - (1 : Int))) X))))) :=
  (zblk 73 zc73 rfl [30, 38, 50, 60, 69, 75] 77 50 _ _ _ _).trans rfl
-- yX7_slipOn
theorem q73_60 (r0 : Int) (r1 : Int) (x2 : Int) (r3 : Int) (x4 : Int) (M : zM) (X : zX) : zex 73 60 [] [(2, r0), (2, r1), (0, x2), (2, r3), (0, x4)] M X = zg (zkd X r0 = (13, 0) ∧ 0 < (M r0 5)) (zg ((zkd X (M r0 5)).1 = 5 ∧ 0 ≤ (2 : Int) ∧ (2 : Int) < ((zkd X (M r0 5)).2 : Int) ∧ 0 < (M (M r0 5) (2 : Int))) (zg (zkd X r0 = (13, 0)) (zg (zkd X r1 = (12, 0)) (zg ((zkd X (M (M r0 5) (2 : Int))).1 = 0 ∧ 0 ≤ (M r0 6) ∧ (M r0 6) < ((zkd X (M (M r0 5) (2 : Int))).2 : Int)) (zex 73 69 [] [(2, r0), (2, r1), (0, x2), (2, r3), (0, x4)] (zu M (M (M r0 5) (2 : Int)) (M r0 6) (M r1 6)) X))))) :=
  (zblk 73 zc73 rfl [30, 38, 50, 60, 69, 75] 77 60 _ _ _ _).trans rfl
