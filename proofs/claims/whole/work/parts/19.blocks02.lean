/-! BLOCKS of the abstract run, by program -/
-- yX12_init
theorem q141_186 (r0 : Int) (M : zM) (X : zX) : zex 141 186 [] [(2, r0)] M X = zg (zkd X r0 = (18, 0) ∧ 0 < (M r0 14)) (zg ((zkd X (M r0 14)).1 = 0 ∧ 0 ≤ (0 : Int) ∧ (0 : Int) < ((zkd X (M r0 14)).2 : Int)) (zex 141 191 [] [(2, r0)] (zu M (M r0 14) (0 : Int) (1 : Int)) X)) :=
  (zblk 141 zc141 rfl [6, 10, 14, 18, 21, 25, 29, 33, 36, 40, 43, 46, 50, 54, 58, 62, 66, 70, 74, 78, 82, 86, 90, 94, 98, 102, 106, 110, 114, 118, 122, 126, 130, 134, 138, 142, 146, 150, 154, 158, 162, 166, 170, 174, 178, 182, 186, 191] 193 186 _ _ _ _).trans rfl
-- yX12_init
theorem q141_191 (r0 : Int) (M : zM) (X : zX) : zex 141 191 [] [(2, r0)] M X = some ((9, 0), M, X) :=
  (zblk 141 zc141 rfl [6, 10, 14, 18, 21, 25, 29, 33, 36, 40, 43, 46, 50, 54, 58, 62, 66, 70, 74, 78, 82, 86, 90, 94, 98, 102, 106, 110, 114, 118, 122, 126, 130, 134, 138, 142, 146, 150, 154, 158, 162, 166, 170, 174, 178, 182, 186, 191] 193 191 _ _ _ _).trans rfl
-- yX12_thrown
theorem q142_0 (r0 : Int) (M : zM) (X : zX) : zex 142 0 [] [(2, r0)] M X = zg (zkd X r0 = (18, 0)) (some ((0, (M r0 0)), M, X)) :=
  (zblk 142 zc142 rfl [] 4 0 _ _ _ _).trans rfl
-- yX12_in
theorem q143_0 (x0 : Int) (x1 : Int) (x2 : Int) (M : zM) (X : zX) : zex 143 0 [] [(0, x0), (0, x1), (0, x2)] M X = if x0 < x1 then zex 143 8 [] [(0, x0), (0, x1), (0, x2)] M X else if x2 < x0 then zex 143 8 [] [(0, x0), (0, x1), (0, x2)] M X else zex 143 9 [(0, (1 : Int))] [(0, x0), (0, x1), (0, x2)] M X :=
  (zblk 143 zc143 rfl [8, 9] 11 0 _ _ _ _).trans rfl
-- yX12_in
theorem q143_8 (x0 : Int) (x1 : Int) (x2 : Int) (M : zM) (X : zX) : zex 143 8 [] [(0, x0), (0, x1), (0, x2)] M X = zex 143 9 [(0, (0 : Int))] [(0, x0), (0, x1), (0, x2)] M X :=
  (zblk 143 zc143 rfl [8, 9] 11 8 _ _ _ _).trans rfl
-- yX12_in
theorem q143_9 (s0 : Int) (x0 : Int) (x1 : Int) (x2 : Int) (M : zM) (X : zX) : zex 143 9 [(0, s0)] [(0, x0), (0, x1), (0, x2)] M X = zg (s0 = 0 ∨ s0 = 1) (some ((0, s0), M, X)) :=
  (zblk 143 zc143 rfl [8, 9] 11 9 _ _ _ _).trans rfl
-- yX12_refuse
theorem q144_0 (r0 : Int) (x1 : Int) (M : zM) (X : zX) : zex 144 0 [] [(2, r0), (0, x1)] M X = zg (zkd X r0 = (18, 0)) (zg (zI ((M r0 25) + (1 : Int))) (zg (zkd X r0 = (18, 0)) (some ((0, x1), (zu M r0 25 ((M r0 25) + (1 : Int))), X)))) :=
  (zblk 144 zc144 rfl [] 9 0 _ _ _ _).trans rfl
-- yX12_begin
theorem q145_0 (r0 : Int) (d1 : zV) (M : zM) (X : zX) : zex 145 0 [] [(2, r0), d1] M X = zex 145 2 [] [(2, r0), (0, (0 : Int))] M X :=
  (zblk 145 zc145 rfl [2, 10, 14, 22, 27, 30, 33, 36, 39, 42, 47, 50, 53, 56, 59, 62, 65] 68 0 _ _ _ _).trans rfl
-- yX12_begin
theorem q145_2 (r0 : Int) (x1 : Int) (M : zM) (X : zX) : zex 145 2 [] [(2, r0), (0, x1)] M X = if (3 : Int) ≤ x1 then zex 145 14 [] [(2, r0), (0, (0 : Int))] M X else zg (zkd X r0 = (18, 0) ∧ 0 < (M r0 1)) (zg ((zkd X (M r0 1)).1 = 0 ∧ 0 ≤ x1 ∧ x1 < ((zkd X (M r0 1)).2 : Int)) (zex 145 10 [] [(2, r0), (0, x1)] (zu M (M r0 1) x1 (0 : Int)) X)) :=
  (zblk 145 zc145 rfl [2, 10, 14, 22, 27, 30, 33, 36, 39, 42, 47, 50, 53, 56, 59, 62, 65] 68 2 _ _ _ _).trans rfl
-- yX12_begin
theorem q145_10 (r0 : Int) (x1 : Int) (M : zM) (X : zX) : zex 145 10 [] [(2, r0), (0, x1)] M X = zg (zI (x1 + (1 : Int))) (zex 145 2 [] [(2, r0), (0, (x1 + (1 : Int)))] M X) :=
  (zblk 145 zc145 rfl [2, 10, 14, 22, 27, 30, 33, 36, 39, 42, 47, 50, 53, 56, 59, 62, 65] 68 10 _ _ _ _).trans rfl
-- yX12_begin
theorem q145_14 (r0 : Int) (x1 : Int) (M : zM) (X : zX) : zex 145 14 [] [(2, r0), (0, x1)] M X = if (1024 : Int) ≤ x1 then zg (zkd X r0 = (18, 0)) (zex 145 27 [] [(2, r0), (0, x1)] (zu M r0 5 (2 : Int)) X) else zg (zkd X r0 = (18, 0) ∧ 0 < (M r0 9)) (zg ((zkd X (M r0 9)).1 = 2 ∧ 0 ≤ x1 ∧ x1 < ((zkd X (M r0 9)).2 : Int) ∧ ((0 : Int) = 0 ∨ (0 : Int) = 1)) (zex 145 22 [] [(2, r0), (0, x1)] (zu M (M r0 9) x1 (0 : Int)) X)) :=
  (zblk 145 zc145 rfl [2, 10, 14, 22, 27, 30, 33, 36, 39, 42, 47, 50, 53, 56, 59, 62, 65] 68 14 _ _ _ _).trans rfl
-- yX12_begin
theorem q145_22 (r0 : Int) (x1 : Int) (M : zM) (X : zX) : zex 145 22 [] [(2, r0), (0, x1)] M X = zg (zI (x1 + (1 : Int))) (zex 145 14 [] [(2, r0), (0, (x1 + (1 : Int)))] M X) :=
  (zblk 145 zc145 rfl [2, 10, 14, 22, 27, 30, 33, 36, 39, 42, 47, 50, 53, 56, 59, 62, 65] 68 22 _ _ _ _).trans rfl
-- yX12_begin
theorem q145_27 (r0 : Int) (x1 : Int) (M : zM) (X : zX) : zex 145 27 [] [(2, r0), (0, x1)] M X = zg (zkd X r0 = (18, 0)) (zex 145 30 [] [(2, r0), (0, x1)] (zu M r0 6 (0 : Int)) X) :=
  (zblk 145 zc145 rfl [2, 10, 14, 22, 27, 30, 33, 36, 39, 42, 47, 50, 53, 56, 59, 62, 65] 68 27 _ _ _ _).trans rfl
-- yX12_begin
theorem q145_30 (r0 : Int) (x1 : Int) (M : zM) (X : zX) : zex 145 30 [] [(2, r0), (0, x1)] M X = zg (zkd X r0 = (18, 0)) (zex 145 33 [] [(2, r0), (0, x1)] (zu M r0 10 (0 : Int)) X) :=
  (zblk 145 zc145 rfl [2, 10, 14, 22, 27, 30, 33, 36, 39, 42, 47, 50, 53, 56, 59, 62, 65] 68 30 _ _ _ _).trans rfl
-- yX12_begin
theorem q145_33 (r0 : Int) (x1 : Int) (M : zM) (X : zX) : zex 145 33 [] [(2, r0), (0, x1)] M X = zg (zkd X r0 = (18, 0)) (zex 145 36 [] [(2, r0), (0, x1)] (zu M r0 11 (0 : Int)) X) :=
  (zblk 145 zc145 rfl [2, 10, 14, 22, 27, 30, 33, 36, 39, 42, 47, 50, 53, 56, 59, 62, 65] 68 33 _ _ _ _).trans rfl
-- yX12_begin
theorem q145_36 (r0 : Int) (x1 : Int) (M : zM) (X : zX) : zex 145 36 [] [(2, r0), (0, x1)] M X = zg (zkd X r0 = (18, 0)) (zex 145 39 [] [(2, r0), (0, x1)] (zu M r0 12 (0 : Int)) X) :=
  (zblk 145 zc145 rfl [2, 10, 14, 22, 27, 30, 33, 36, 39, 42, 47, 50, 53, 56, 59, 62, 65] 68 36 _ _ _ _).trans rfl
-- yX12_begin
theorem q145_39 (r0 : Int) (x1 : Int) (M : zM) (X : zX) : zex 145 39 [] [(2, r0), (0, x1)] M X = zg (zkd X r0 = (18, 0)) (zex 145 42 [] [(2, r0), (0, x1)] (zu M r0 13 (1 : Int)) X) :=
  (zblk 145 zc145 rfl [2, 10, 14, 22, 27, 30, 33, 36, 39, 42, 47, 50, 53, 56, 59, 62, 65] 68 39 _ _ _ _).trans rfl
-- yX12_begin
theorem q145_42 (r0 : Int) (x1 : Int) (M : zM) (X : zX) : zex 145 42 [] [(2, r0), (0, x1)] M X = zg (zkd X r0 = (18, 0) ∧ 0 < (M r0 14)) (zg ((zkd X (M r0 14)).1 = 0 ∧ 0 ≤ (0 : Int) ∧ (0 : Int) < ((zkd X (M r0 14)).2 : Int)) (zex 145 47 [] [(2, r0), (0, x1)] (zu M (M r0 14) (0 : Int) (1 : Int)) X)) :=
  (zblk 145 zc145 rfl [2, 10, 14, 22, 27, 30, 33, 36, 39, 42, 47, 50, 53, 56, 59, 62, 65] 68 42 _ _ _ _).trans rfl
-- yX12_begin
theorem q145_47 (r0 : Int) (x1 : Int) (M : zM) (X : zX) : zex 145 47 [] [(2, r0), (0, x1)] M X = zg (zkd X r0 = (18, 0)) (zex 145 50 [] [(2, r0), (0, x1)] (zu M r0 15 (9 : Int)) X) :=
  (zblk 145 zc145 rfl [2, 10, 14, 22, 27, 30, 33, 36, 39, 42, 47, 50, 53, 56, 59, 62, 65] 68 47 _ _ _ _).trans rfl
-- yX12_begin
theorem q145_50 (r0 : Int) (x1 : Int) (M : zM) (X : zX) : zex 145 50 [] [(2, r0), (0, x1)] M X = zg (zkd X r0 = (18, 0)) (zex 145 53 [] [(2, r0), (0, x1)] (zu M r0 16 (2000 : Int)) X) :=
  (zblk 145 zc145 rfl [2, 10, 14, 22, 27, 30, 33, 36, 39, 42, 47, 50, 53, 56, 59, 62, 65] 68 50 _ _ _ _).trans rfl
-- yX12_begin
theorem q145_53 (r0 : Int) (x1 : Int) (M : zM) (X : zX) : zex 145 53 [] [(2, r0), (0, x1)] M X = zg (zkd X r0 = (18, 0)) (zex 145 56 [] [(2, r0), (0, x1)] (zu M r0 17 (0 : Int)) X) :=
  (zblk 145 zc145 rfl [2, 10, 14, 22, 27, 30, 33, 36, 39, 42, 47, 50, 53, 56, 59, 62, 65] 68 53 _ _ _ _).trans rfl
-- yX12_begin
theorem q145_56 (r0 : Int) (x1 : Int) (M : zM) (X : zX) : zex 145 56 [] [(2, r0), (0, x1)] M X = zg (zkd X r0 = (18, 0)) (zex 145 59 [] [(2, r0), (0, x1)] (zu M r0 21 (0 : Int)) X) :=
  (zblk 145 zc145 rfl [2, 10, 14, 22, 27, 30, 33, 36, 39, 42, 47, 50, 53, 56, 59, 62, 65] 68 56 _ _ _ _).trans rfl
-- yX12_begin
theorem q145_59 (r0 : Int) (x1 : Int) (M : zM) (X : zX) : zex 145 59 [] [(2, r0), (0, x1)] M X = zg (zkd X r0 = (18, 0)) (zex 145 62 [] [(2, r0), (0, x1)] (zu M r0 25 (0 : Int)) X) :=
  (zblk 145 zc145 rfl [2, 10, 14, 22, 27, 30, 33, 36, 39, 42, 47, 50, 53, 56, 59, 62, 65] 68 59 _ _ _ _).trans rfl
-- yX12_begin
theorem q145_62 (r0 : Int) (x1 : Int) (M : zM) (X : zX) : zex 145 62 [] [(2, r0), (0, x1)] M X = zg (zkd X r0 = (18, 0) ∧ ((0 : Int) = 0 ∨ (0 : Int) = 1)) (zex 145 65 [] [(2, r0), (0, x1)] (zu M r0 26 (0 : Int)) X) :=
  (zblk 145 zc145 rfl [2, 10, 14, 22, 27, 30, 33, 36, 39, 42, 47, 50, 53, 56, 59, 62, 65] 68 62 _ _ _ _).trans rfl
-- yX12_begin
theorem q145_65 (r0 : Int) (x1 : Int) (M : zM) (X : zX) : zex 145 65 [] [(2, r0), (0, x1)] M X = some ((0, (0 : Int)), M, X) :=
  (zblk 145 zc145 rfl [2, 10, 14, 22, 27, 30, 33, 36, 39, 42, 47, 50, 53, 56, 59, 62, 65] 68 65 _ _ _ _).trans rfl
-- yX12_isAxle
theorem q146_0 (x0 : Int) (M : zM) (X : zX) : zex 146 0 [] [(0, x0)] M X = zbI (zex 143 0 [] [(0, x0), (0, (0 : Int)), (0, (2 : Int))] M X) (fun v1 M1 X1 => zg (v1 = 0 ∨ v1 = 1) (some ((0, v1), M1, X1))) :=
  (zblk 146 zc146 rfl [] 6 0 _ _ _ _).trans rfl
-- yX12_wind
set_option maxRecDepth 20000 in
theorem q147_0 (r0 : Int) (x1 : Int) (x2 : Int) (x3 : Int) (x4 : Int) (d5 : zV) (M : zM) (X : zX) : zex 147 0 [] [(2, r0), (0, x1), (0, x2), (0, x3), (0, x4), d5] M X = zbI (zex 146 0 [] [(0, x1)] M X) (fun v1 M1 X1 => if v1 = 0 then zex 147 18 [] [(2, r0), (0, x1), (0, x2), (0, x3), (0, x4), d5] M1 X1 else zbI (zex 143 0 [] [(0, x2), (0, (0 : Int)), (0, (3 : Int))] M1 X1) (fun v2 M2 X2 => if v2 = 0 then zex 147 18 [] [(2, r0), (0, x1), (0, x2), (0, x3), (0, x4), d5] M2 X2 else zbI (zex 143 0 [] [(0, x3), (0, (1 : Int)), (0, (200 : Int))] M2 X2) (fun v3 M3 X3 => if v3 = 0 then zex 147 18 [] [(2, r0), (0, x1), (0, x2), (0, x3), (0, x4), d5] M3 X3 else zbI (zex 143 0 [] [(0, x4), (0, (0 : Int)), (0, (1 : Int))] M3 X3) (fun v4 M4 X4 => if v4 = 0 then zex 147 18 [] [(2, r0), (0, x1), (0, x2), (0, x3), (0, x4), d5] M4 X4 else zg (zkd X4 r0 = (18, 0) ∧ 0 < (M4 r0 1)) (zg ((zkd X4 (M4 r0 1)).1 = 0 ∧ 0 ≤ x1 ∧ x1 < ((zkd X4 (M4 r0 1)).2 : Int)) (if (M4 (M4 r0 1) x1) = (40 : Int) then some ((0, (-2 : Int)), M4, X4) else zg (zI ((40 : Int) * x1)) (zg (zkd X4 r0 = (18, 0) ∧ 0 < (M4 r0 1)) (zg ((zkd X4 (M4 r0 1)).1 = 0 ∧ 0 ≤ x1 ∧ x1 < ((zkd X4 (M4 r0 1)).2 : Int)) (zg (zI (((40 : Int) * x1) + (M4 (M4 r0 1) x1))) (zg (zkd X4 r0 = (18, 0) ∧ 0 < (M4 r0 2)) (zg ((zkd X4 (M4 r0 2)).1 = 0 ∧ 0 ≤ (((40 : Int) * x1) + (M4 (M4 r0 1) x1)) ∧ (((40 : Int) * x1) + (M4 (M4 r0 1) x1)) < ((zkd X4 (M4 r0 2)).2 : Int)) (zex 147 42 [] [(2, r0), (0, x1), (0, x2), (0, x3), (0, x4), (0, (((40 : Int) * x1) + (M4 (M4 r0 1) x1)))] (zu M4 (M4 r0 2) (((40 : Int) * x1) + (M4 (M4 r0 1) x1)) x2) X4)))))))))))) :=
  (zblk 147 zc147 rfl [18, 42, 47, 52, 60] 66 0 _ _ _ _).trans rfl
-- yX12_wind
theorem q147_18 (r0 : Int) (x1 : Int) (x2 : Int) (x3 : Int) (x4 : Int) (d5 : zV) (M : zM) (X : zX) : zex 147 18 [] [(2, r0), (0, x1), (0, x2), (0, x3), (0, x4), d5] M X = some ((0, (-1 : Int)), M, X) :=
  (zblk 147 zc147 rfl [18, 42, 47, 52, 60] 66 18 _ _ _ _).trans rfl
-- yX12_wind
theorem q147_42 (r0 : Int) (x1 : Int) (x2 : Int) (x3 : Int) (x4 : Int) (x5 : Int) (M : zM) (X : zX) : zex 147 42 [] [(2, r0), (0, x1), (0, x2), (0, x3), (0, x4), (0, x5)] M X = zg (zkd X r0 = (18, 0) ∧ 0 < (M r0 3)) (zg ((zkd X (M r0 3)).1 = 0 ∧ 0 ≤ x5 ∧ x5 < ((zkd X (M r0 3)).2 : Int)) (zex 147 47 [] [(2, r0), (0, x1), (0, x2), (0, x3), (0, x4), (0, x5)] (zu M (M r0 3) x5 x3) X)) :=
  (zblk 147 zc147 rfl [18, 42, 47, 52, 60] 66 42 _ _ _ _).trans rfl
-- yX12_wind
theorem q147_47 (r0 : Int) (x1 : Int) (x2 : Int) (x3 : Int) (x4 : Int) (x5 : Int) (M : zM) (X : zX) : zex 147 47 [] [(2, r0), (0, x1), (0, x2), (0, x3), (0, x4), (0, x5)] M X = zg (zkd X r0 = (18, 0) ∧ 0 < (M r0 4)) (zg ((zkd X (M r0 4)).1 = 0 ∧ 0 ≤ x5 ∧ x5 < ((zkd X (M r0 4)).2 : Int)) (zex 147 52 [] [(2, r0), (0, x1), (0, x2), (0, x3), (0, x4), (0, x5)] (zu M (M r0 4) x5 x4) X)) :=
  (zblk 147 zc147 rfl [18, 42, 47, 52, 60] 66 47 _ _ _ _).trans rfl
-- yX12_wind
theorem q147_52 (r0 : Int) (x1 : Int) (x2 : Int) (x3 : Int) (x4 : Int) (x5 : Int) (M : zM) (X : zX) : zex 147 52 [] [(2, r0), (0, x1), (0, x2), (0, x3), (0, x4), (0, x5)] M X = zg (zkd X r0 = (18, 0) ∧ 0 < (M r0 1)) (zg ((zkd X (M r0 1)).1 = 0 ∧ 0 ≤ x1 ∧ x1 < ((zkd X (M r0 1)).2 : Int)) (zg (zI ((M (M r0 1) x1) + (1 : Int))) (zg ((zkd X (M r0 1)).1 = 0 ∧ 0 ≤ x1 ∧ x1 < ((zkd X (M r0 1)).2 : Int)) (zex 147 60 [] [(2, r0), (0, x1), (0, x2), (0, x3), (0, x4), (0, x5)] (zu M (M r0 1) x1 ((M (M r0 1) x1) + (1 : Int))) X)))) :=
  (zblk 147 zc147 rfl [18, 42, 47, 52, 60] 66 52 _ _ _ _).trans rfl
-- yX12_wind
theorem q147_60 (r0 : Int) (x1 : Int) (x2 : Int) (x3 : Int) (x4 : Int) (x5 : Int) (M : zM) (X : zX) : zex 147 60 [] [(2, r0), (0, x1), (0, x2), (0, x3), (0, x4), (0, x5)] M X = zg (zkd X r0 = (18, 0) ∧ 0 < (M r0 1)) (zg ((zkd X (M r0 1)).1 = 0 ∧ 0 ≤ x1 ∧ x1 < ((zkd X (M r0 1)).2 : Int)) (some ((0, (M (M r0 1) x1)), M, X))) :=
  (zblk 147 zc147 rfl [18, 42, 47, 52, 60] 66 60 _ _ _ _).trans rfl
-- yX12_unwind
theorem q148_0 (r0 : Int) (x1 : Int) (d2 : zV) (M : zM) (X : zX) : zex 148 0 [] [(2, r0), (0, x1), d2] M X = zbI (zex 146 0 [] [(0, x1)] M X) (fun v1 M1 X1 => if v1 = 0 then some ((0, (-1 : Int)), M1, X1) else zg (zkd X1 r0 = (18, 0) ∧ 0 < (M1 r0 1)) (zg ((zkd X1 (M1 r0 1)).1 = 0 ∧ 0 ≤ x1 ∧ x1 < ((zkd X1 (M1 r0 1)).2 : Int)) (zg (zkd X1 r0 = (18, 0) ∧ 0 < (M1 r0 1)) (zg ((zkd X1 (M1 r0 1)).1 = 0 ∧ 0 ≤ x1 ∧ x1 < ((zkd X1 (M1 r0 1)).2 : Int)) (some ((0, (M1 (M1 r0 1) x1)), (zu M1 (M1 r0 1) x1 (0 : Int)), X1)))))) :=
  (zblk 148 zc148 rfl [] 18 0 _ _ _ _).trans rfl
-- yX12_segment
set_option maxRecDepth 20000 in
theorem q149_0 (r0 : Int) (x1 : Int) (x2 : Int) (x3 : Int) (d4 : zV) (M : zM) (X : zX) : zex 149 0 [] [(2, r0), (0, x1), (0, x2), (0, x3), d4] M X = zbI (zex 146 0 [] [(0, x1)] M X) (fun v1 M1 X1 => if v1 = 0 then zex 149 13 [] [(2, r0), (0, x1), (0, x2), (0, x3), d4] M1 X1 else zg (zkd X1 r0 = (18, 0) ∧ 0 < (M1 r0 1)) (zg ((zkd X1 (M1 r0 1)).1 = 0 ∧ 0 ≤ x1 ∧ x1 < ((zkd X1 (M1 r0 1)).2 : Int)) (zg (zI ((M1 (M1 r0 1) x1) - (1 : Int))) (zbI (zex 143 0 [] [(0, x2), (0, (0 : Int)), (0, ((M1 (M1 r0 1) x1) - (1 : Int)))] M1 X1) (fun v2 M2 X2 => if v2 = 0 then zex 149 13 [] [(2, r0), (0, x1), (0, x2), (0, x3), d4] M2 X2 else zg (zI ((40 : Int) * x1)) (zg (zI (((40 : Int) * x1) + x2)) (if x3 = 0 then zg (zkd X2 r0 = (18, 0) ∧ 0 < (M2 r0 2)) (zg ((zkd X2 (M2 r0 2)).1 = 0 ∧ 0 ≤ (((40 : Int) * x1) + x2) ∧ (((40 : Int) * x1) + x2) < ((zkd X2 (M2 r0 2)).2 : Int)) (zex 149 45 [(0, (M2 (M2 r0 2) (((40 : Int) * x1) + x2)))] [(2, r0), (0, x1), (0, x2), (0, x3), (0, (((40 : Int) * x1) + x2))] M2 X2)) else if x3 = (1 : Int) then zg (zkd X2 r0 = (18, 0) ∧ 0 < (M2 r0 3)) (zg ((zkd X2 (M2 r0 3)).1 = 0 ∧ 0 ≤ (((40 : Int) * x1) + x2) ∧ (((40 : Int) * x1) + x2) < ((zkd X2 (M2 r0 3)).2 : Int)) (zex 149 45 [(0, (M2 (M2 r0 3) (((40 : Int) * x1) + x2)))] [(2, r0), (0, x1), (0, x2), (0, x3), (0, (((40 : Int) * x1) + x2))] M2 X2)) else if x3 = (2 : Int) then zg (zkd X2 r0 = (18, 0) ∧ 0 < (M2 r0 4)) (zg ((zkd X2 (M2 r0 4)).1 = 0 ∧ 0 ≤ (((40 : Int) * x1) + x2) ∧ (((40 : Int) * x1) + x2) < ((zkd X2 (M2 r0 4)).2 : Int)) (zex 149 45 [(0, (M2 (M2 r0 4) (((40 : Int) * x1) + x2)))] [(2, r0), (0, x1), (0, x2), (0, x3), (0, (((40 : Int) * x1) + x2))] M2 X2)) else zex 149 45 [(0, (-1 : Int))] [(2, r0), (0, x1), (0, x2), (0, x3), (0, (((40 : Int) * x1) + x2))] M2 X2))))))) :=
  (zblk 149 zc149 rfl [13, 45] 47 0 _ _ _ _).trans rfl
-- yX12_segment
theorem q149_13 (r0 : Int) (x1 : Int) (x2 : Int) (x3 : Int) (d4 : zV) (M : zM) (X : zX) : zex 149 13 [] [(2, r0), (0, x1), (0, x2), (0, x3), d4] M X = some ((0, (-1 : Int)), M, X) :=
  (zblk 149 zc149 rfl [13, 45] 47 13 _ _ _ _).trans rfl
-- yX12_segment
theorem q149_45 (s0 : Int) (r0 : Int) (x1 : Int) (x2 : Int) (x3 : Int) (x4 : Int) (M : zM) (X : zX) : zex 149 45 [(0, s0)] [(2, r0), (0, x1), (0, x2), (0, x3), (0, x4)] M X = some ((0, s0), M, X) :=
  (zblk 149 zc149 rfl [13, 45] 47 45 _ _ _ _).trans rfl
-- yX12_hard
theorem q150_0 (r0 : Int) (x1 : Int) (d2 : zV) (M : zM) (X : zX) : zex 150 0 [] [(2, r0), (0, x1), d2] M X = zbI (zex 143 0 [] [(0, x1), (0, (1 : Int)), (0, (8 : Int))] M X) (fun v1 M1 X1 => if v1 = 0 then some ((0, (-1 : Int)), M1, X1) else zg (zkd X1 r0 = (18, 0)) (zg (zkd X1 r0 = (18, 0)) (some ((0, (M1 r0 5)), (zu M1 r0 5 x1), X1)))) :=
  (zblk 150 zc150 rfl [] 16 0 _ _ _ _).trans rfl
-- yX12_pegAt
theorem q151_0 (r0 : Int) (x1 : Int) (d2 : zV) (M : zM) (X : zX) : zex 151 0 [] [(2, r0), (0, x1), d2] M X = zex 151 2 [] [(2, r0), (0, x1), (0, (0 : Int))] M X :=
  (zblk 151 zc151 rfl [2] 19 0 _ _ _ _).trans rfl
-- yX12_pegAt
theorem q151_2 (r0 : Int) (x1 : Int) (x2 : Int) (M : zM) (X : zX) : zex 151 2 [] [(2, r0), (0, x1), (0, x2)] M X = zg (zkd X r0 = (18, 0)) (if (M r0 6) ≤ x2 then some ((0, (-1 : Int)), M, X) else zg (zkd X r0 = (18, 0) ∧ 0 < (M r0 7)) (zg ((zkd X (M r0 7)).1 = 0 ∧ 0 ≤ x2 ∧ x2 < ((zkd X (M r0 7)).2 : Int)) (if (M (M r0 7) x2) = x1 then some ((0, x2), M, X) else zg (zI (x2 + (1 : Int))) (zex 151 2 [] [(2, r0), (0, x1), (0, (x2 + (1 : Int)))] M X)))) :=
  (zblk 151 zc151 rfl [2] 19 2 _ _ _ _).trans rfl
-- yX12_peg
theorem q152_0 (r0 : Int) (x1 : Int) (x2 : Int) (d3 : zV) (M : zM) (X : zX) : zex 152 0 [] [(2, r0), (0, x1), (0, x2), d3] M X = zg (zkd X r0 = (18, 0)) (zbI (zex 151 0 [] [(2, r0), (0, x1), (9, 0)] M X) (fun v1 M1 X1 => zbI (zex 143 0 [] [(0, x1), (0, (-400 : Int)), (0, (400 : Int))] M1 X1) (fun v2 M2 X2 => if v2 = 0 then zex 152 19 [] [(2, r0), (0, x1), (0, x2), (0, v1)] M2 X2 else zbI (zex 143 0 [] [(0, x2), (0, (0 : Int)), (0, (9 : Int))] M2 X2) (fun v3 M3 X3 => if v3 = 0 then zex 152 19 [] [(2, r0), (0, x1), (0, x2), (0, v1)] M3 X3 else if x2 = 0 then if v1 = (-1 : Int) then zex 152 19 [] [(2, r0), (0, x1), (0, x2), (0, v1)] M3 X3 else zex 152 21 [] [(2, r0), (0, x1), (0, x2), (0, v1)] M3 X3 else zex 152 21 [] [(2, r0), (0, x1), (0, x2), (0, v1)] M3 X3)))) :=
  (zblk 152 zc152 rfl [19, 21, 30, 38, 47, 56, 65, 72, 78, 84] 88 0 _ _ _ _).trans rfl
-- yX12_peg
theorem q152_19 (r0 : Int) (x1 : Int) (x2 : Int) (x3 : Int) (M : zM) (X : zX) : zex 152 19 [] [(2, r0), (0, x1), (0, x2), (0, x3)] M X = some ((0, (-1 : Int)), M, X) :=
  (zblk 152 zc152 rfl [19, 21, 30, 38, 47, 56, 65, 72, 78, 84] 88 19 _ _ _ _).trans rfl
-- yX12_peg
theorem q152_21 (r0 : Int) (x1 : Int) (x2 : Int) (x3 : Int) (M : zM) (X : zX) : zex 152 21 [] [(2, r0), (0, x1), (0, x2), (0, x3)] M X = if x3 = (-1 : Int) then zg (zkd X r0 = (18, 0)) (if (M r0 6) = (12 : Int) then some ((0, (-2 : Int)), M, X) else zex 152 30 [] [(2, r0), (0, x1), (0, x2), (0, x3)] M X) else zex 152 30 [] [(2, r0), (0, x1), (0, x2), (0, x3)] M X :=
  (zblk 152 zc152 rfl [19, 21, 30, 38, 47, 56, 65, 72, 78, 84] 88 21 _ _ _ _).trans rfl
-- yX12_peg
theorem q152_30 (r0 : Int) (x1 : Int) (x2 : Int) (x3 : Int) (M : zM) (X : zX) : zex 152 30 [] [(2, r0), (0, x1), (0, x2), (0, x3)] M X = if x2 = 0 then zg (zkd X r0 = (18, 0)) (zg (zI ((M r0 6) - (1 : Int))) (zg (zkd X r0 = (18, 0)) (zex 152 38 [] [(2, r0), (0, x1), (0, x2), (0, x3)] (zu M r0 6 ((M r0 6) - (1 : Int))) X))) else if x3 = (-1 : Int) then zg (zkd X r0 = (18, 0) ∧ 0 < (M r0 7)) (zg (zkd X r0 = (18, 0)) (zg ((zkd X (M r0 7)).1 = 0 ∧ 0 ≤ (M r0 6) ∧ (M r0 6) < ((zkd X (M r0 7)).2 : Int)) (zex 152 72 [] [(2, r0), (0, x1), (0, x2), (0, x3)] (zu M (M r0 7) (M r0 6) x1) X))) else zg (zkd X r0 = (18, 0) ∧ 0 < (M r0 8)) (zg ((zkd X (M r0 8)).1 = 0 ∧ 0 ≤ x3 ∧ x3 < ((zkd X (M r0 8)).2 : Int)) (zex 152 65 [] [(2, r0), (0, x1), (0, x2), (0, x3)] (zu M (M r0 8) x3 x2) X)) :=
  (zblk 152 zc152 rfl [19, 21, 30, 38, 47, 56, 65, 72, 78, 84] 88 30 _ _ _ _).trans rfl
-- yX12_peg
theorem q152_38 (r0 : Int) (x1 : Int) (x2 : Int) (x3 : Int) (M : zM) (X : zX) : zex 152 38 [] [(2, r0), (0, x1), (0, x2), (0, x3)] M X = zg (zkd X r0 = (18, 0) ∧ 0 < (M r0 7)) (zg (zkd X r0 = (18, 0) ∧ 0 < (M r0 7)) (zg (zkd X r0 = (18, 0)) (zg ((zkd X (M r0 7)).1 = 0 ∧ 0 ≤ (M r0 6) ∧ (M r0 6) < ((zkd X (M r0 7)).2 : Int)) (zg ((zkd X (M r0 7)).1 = 0 ∧ 0 ≤ x3 ∧ x3 < ((zkd X (M r0 7)).2 : Int)) (zex 152 47 [] [(2, r0), (0, x1), (0, x2), (0, x3)] (zu M (M r0 7) x3 (M (M r0 7) (M r0 6))) X))))) :=
  (zblk 152 zc152 rfl [19, 21, 30, 38, 47, 56, 65, 72, 78, 84] 88 38 _ _ _ _).trans rfl
-- yX12_peg
theorem q152_47 (r0 : Int) (x1 : Int) (x2 : Int) (x3 : Int) (M : zM) (X : zX) : zex 152 47 [] [(2, r0), (0, x1), (0, x2), (0, x3)] M X = zg (zkd X r0 = (18, 0) ∧ 0 < (M r0 8)) (zg (zkd X r0 = (18, 0) ∧ 0 < (M r0 8)) (zg (zkd X r0 = (18, 0)) (zg ((zkd X (M r0 8)).1 = 0 ∧ 0 ≤ (M r0 6) ∧ (M r0 6) < ((zkd X (M r0 8)).2 : Int)) (zg ((zkd X (M r0 8)).1 = 0 ∧ 0 ≤ x3 ∧ x3 < ((zkd X (M r0 8)).2 : Int)) (zex 152 56 [] [(2, r0), (0, x1), (0, x2), (0, x3)] (zu M (M r0 8) x3 (M (M r0 8) (M r0 6))) X))))) :=
  (zblk 152 zc152 rfl [19, 21, 30, 38, 47, 56, 65, 72, 78, 84] 88 47 _ _ _ _).trans rfl
-- yX12_peg
theorem q152_56 (r0 : Int) (x1 : Int) (x2 : Int) (x3 : Int) (M : zM) (X : zX) : zex 152 56 [] [(2, r0), (0, x1), (0, x2), (0, x3)] M X = zex 152 84 [] [(2, r0), (0, x1), (0, x2), (0, x3)] M X :=
  (zblk 152 zc152 rfl [19, 21, 30, 38, 47, 56, 65, 72, 78, 84] 88 56 _ _ _ _).trans rfl
-- yX12_peg
theorem q152_65 (r0 : Int) (x1 : Int) (x2 : Int) (x3 : Int) (M : zM) (X : zX) : zex 152 65 [] [(2, r0), (0, x1), (0, x2), (0, x3)] M X = zex 152 84 [] [(2, r0), (0, x1), (0, x2), (0, x3)] M X :=
  (zblk 152 zc152 rfl [19, 21, 30, 38, 47, 56, 65, 72, 78, 84] 88 65 _ _ _ _).trans rfl
-- yX12_peg
theorem q152_72 (r0 : Int) (x1 : Int) (x2 : Int) (x3 : Int) (M : zM) (X : zX) : zex 152 72 [] [(2, r0), (0, x1), (0, x2), (0, x3)] M X = zg (zkd X r0 = (18, 0) ∧ 0 < (M r0 8)) (zg (zkd X r0 = (18, 0)) (zg ((zkd X (M r0 8)).1 = 0 ∧ 0 ≤ (M r0 6) ∧ (M r0 6) < ((zkd X (M r0 8)).2 : Int)) (zex 152 78 [] [(2, r0), (0, x1), (0, x2), (0, x3)] (zu M (M r0 8) (M r0 6) x2) X))) :=
  (zblk 152 zc152 rfl [19, 21, 30, 38, 47, 56, 65, 72, 78, 84] 88 72 _ _ _ _).trans rfl
-- yX12_peg
theorem q152_78 (r0 : Int) (x1 : Int) (x2 : Int) (x3 : Int) (M : zM) (X : zX) : zex 152 78 [] [(2, r0), (0, x1), (0, x2), (0, x3)] M X = zg (zkd X r0 = (18, 0)) (zg (zI ((M r0 6) + (1 : Int))) (zg (zkd X r0 = (18, 0)) (zex 152 84 [] [(2, r0), (0, x1), (0, x2), (0, x3)] (zu M r0 6 ((M r0 6) + (1 : Int))) X))) :=
  (zblk 152 zc152 rfl [19, 21, 30, 38, 47, 56, 65, 72, 78, 84] 88 78 _ _ _ _).trans rfl
-- yX12_peg
theorem q152_84 (r0 : Int) (x1 : Int) (x2 : Int) (x3 : Int) (M : zM) (X : zX) : zex 152 84 [] [(2, r0), (0, x1), (0, x2), (0, x3)] M X = zg (zkd X r0 = (18, 0)) (some ((0, (M r0 6)), M, X)) :=
  (zblk 152 zc152 rfl [19, 21, 30, 38, 47, 56, 65, 72, 78, 84] 88 84 _ _ _ _).trans rfl
-- yX12_isCell
theorem q153_0 (x0 : Int) (x1 : Int) (M : zM) (X : zX) : zex 153 0 [] [(0, x0), (0, x1)] M X = zbI (zex 143 0 [] [(0, x0), (0, (0 : Int)), (0, (31 : Int))] M X) (fun v1 M1 X1 => if v1 = 0 then zex 153 12 [] [(0, x0), (0, x1)] M1 X1 else zbI (zex 143 0 [] [(0, x1), (0, (0 : Int)), (0, (31 : Int))] M1 X1) (fun v2 M2 X2 => if v2 = 0 then zex 153 12 [] [(0, x0), (0, x1)] M2 X2 else zex 153 13 [(0, (1 : Int))] [(0, x0), (0, x1)] M2 X2)) :=
  (zblk 153 zc153 rfl [12, 13] 15 0 _ _ _ _).trans rfl
-- yX12_isCell
theorem q153_12 (x0 : Int) (x1 : Int) (M : zM) (X : zX) : zex 153 12 [] [(0, x0), (0, x1)] M X = zex 153 13 [(0, (0 : Int))] [(0, x0), (0, x1)] M X :=
  (zblk 153 zc153 rfl [12, 13] 15 12 _ _ _ _).trans rfl
-- yX12_isCell
theorem q153_13 (s0 : Int) (x0 : Int) (x1 : Int) (M : zM) (X : zX) : zex 153 13 [(0, s0)] [(0, x0), (0, x1)] M X = zg (s0 = 0 ∨ s0 = 1) (some ((0, s0), M, X)) :=
  (zblk 153 zc153 rfl [12, 13] 15 13 _ _ _ _).trans rfl
-- yX12_start
theorem q154_0 (r0 : Int) (x1 : Int) (x2 : Int) (x3 : Int) (M : zM) (X : zX) : zex 154 0 [] [(2, r0), (0, x1), (0, x2), (0, x3)] M X = zbI (zex 153 0 [] [(0, x1), (0, x2)] M X) (fun v1 M1 X1 => if v1 = 0 then zex 154 9 [] [(2, r0), (0, x1), (0, x2), (0, x3)] M1 X1 else zbI (zex 143 0 [] [(0, x3), (0, (0 : Int)), (0, (15 : Int))] M1 X1) (fun v2 M2 X2 => if v2 = 0 then zex 154 9 [] [(2, r0), (0, x1), (0, x2), (0, x3)] M2 X2 else zg (zkd X2 r0 = (18, 0)) (zex 154 14 [] [(2, r0), (0, x1), (0, x2), (0, x3)] (zu M2 r0 10 x1) X2))) :=
  (zblk 154 zc154 rfl [9, 14, 17, 20, 32] 34 0 _ _ _ _).trans rfl
-- yX12_start
theorem q154_9 (r0 : Int) (x1 : Int) (x2 : Int) (x3 : Int) (M : zM) (X : zX) : zex 154 9 [] [(2, r0), (0, x1), (0, x2), (0, x3)] M X = some ((0, (-1 : Int)), M, X) :=
  (zblk 154 zc154 rfl [9, 14, 17, 20, 32] 34 9 _ _ _ _).trans rfl
-- yX12_start
theorem q154_14 (r0 : Int) (x1 : Int) (x2 : Int) (x3 : Int) (M : zM) (X : zX) : zex 154 14 [] [(2, r0), (0, x1), (0, x2), (0, x3)] M X = zg (zkd X r0 = (18, 0)) (zex 154 17 [] [(2, r0), (0, x1), (0, x2), (0, x3)] (zu M r0 11 x2) X) :=
  (zblk 154 zc154 rfl [9, 14, 17, 20, 32] 34 14 _ _ _ _).trans rfl
-- yX12_start
theorem q154_17 (r0 : Int) (x1 : Int) (x2 : Int) (x3 : Int) (M : zM) (X : zX) : zex 154 17 [] [(2, r0), (0, x1), (0, x2), (0, x3)] M X = zg (zkd X r0 = (18, 0)) (zex 154 20 [] [(2, r0), (0, x1), (0, x2), (0, x3)] (zu M r0 12 x3) X) :=
  (zblk 154 zc154 rfl [9, 14, 17, 20, 32] 34 17 _ _ _ _).trans rfl
-- yX12_start
theorem q154_20 (r0 : Int) (x1 : Int) (x2 : Int) (x3 : Int) (M : zM) (X : zX) : zex 154 20 [] [(2, r0), (0, x1), (0, x2), (0, x3)] M X = zg (zkd X r0 = (18, 0) ∧ 0 < (M r0 9)) (zg (zI ((32 : Int) * x2)) (zg (zI (((32 : Int) * x2) + x1)) (zg ((zkd X (M r0 9)).1 = 2 ∧ 0 ≤ (((32 : Int) * x2) + x1) ∧ (((32 : Int) * x2) + x1) < ((zkd X (M r0 9)).2 : Int)) (if (M (M r0 9) (((32 : Int) * x2) + x1)) = 0 then zex 154 32 [(0, (0 : Int))] [(2, r0), (0, x1), (0, x2), (0, x3)] M X else zex 154 32 [(0, (1 : Int))] [(2, r0), (0, x1), (0, x2), (0, x3)] M X)))) :=
  (zblk 154 zc154 rfl [9, 14, 17, 20, 32] 34 20 _ _ _ _).trans rfl
-- yX12_start
theorem q154_32 (s0 : Int) (r0 : Int) (x1 : Int) (x2 : Int) (x3 : Int) (M : zM) (X : zX) : zex 154 32 [(0, s0)] [(2, r0), (0, x1), (0, x2), (0, x3)] M X = some ((0, s0), M, X) :=
  (zblk 154 zc154 rfl [9, 14, 17, 20, 32] 34 32 _ _ _ _).trans rfl
-- yX12_block
theorem q155_0 (r0 : Int) (x1 : Int) (x2 : Int) (M : zM) (X : zX) : zex 155 0 [] [(2, r0), (0, x1), (0, x2)] M X = zbI (zex 153 0 [] [(0, x1), (0, x2)] M X) (fun v1 M1 X1 => if v1 = 0 then some ((0, (-1 : Int)), M1, X1) else zg (zkd X1 r0 = (18, 0) ∧ 0 < (M1 r0 9)) (zg (zI ((32 : Int) * x2)) (zg (zI (((32 : Int) * x2) + x1)) (zg (zkd X1 r0 = (18, 0) ∧ 0 < (M1 r0 9)) (zg (zI ((32 : Int) * x2)) (zg (zI (((32 : Int) * x2) + x1)) (zg ((zkd X1 (M1 r0 9)).1 = 2 ∧ 0 ≤ (((32 : Int) * x2) + x1) ∧ (((32 : Int) * x2) + x1) < ((zkd X1 (M1 r0 9)).2 : Int)) (if (M1 (M1 r0 9) (((32 : Int) * x2) + x1)) = 0 then zex 155 25 [(0, (1 : Int)), (0, (((32 : Int) * x2) + x1)), (2, (M1 r0 9))] [(2, r0), (0, x1), (0, x2)] M1 X1 else zex 155 25 [(0, (0 : Int)), (0, (((32 : Int) * x2) + x1)), (2, (M1 r0 9))] [(2, r0), (0, x1), (0, x2)] M1 X1)))))))) :=
  (zblk 155 zc155 rfl [25, 38] 40 0 _ _ _ _).trans rfl
-- yX12_block
theorem q155_25 (s0 : Int) (s1 : Int) (s2 : Int) (r0 : Int) (x1 : Int) (x2 : Int) (M : zM) (X : zX) : zex 155 25 [(0, s2), (0, s1), (2, s0)] [(2, r0), (0, x1), (0, x2)] M X = zg ((zkd X s0).1 = 2 ∧ 0 ≤ s1 ∧ s1 < ((zkd X s0).2 : Int) ∧ (s2 = 0 ∨ s2 = 1)) (zg (zkd X r0 = (18, 0) ∧ 0 < ((zu M s0 s1 s2) r0 9)) (zg (zI ((32 : Int) * x2)) (zg (zI (((32 : Int) * x2) + x1)) (zg ((zkd X ((zu M s0 s1 s2) r0 9)).1 = 2 ∧ 0 ≤ (((32 : Int) * x2) + x1) ∧ (((32 : Int) * x2) + x1) < ((zkd X ((zu M s0 s1 s2) r0 9)).2 : Int)) (if ((zu M s0 s1 s2) ((zu M s0 s1 s2) r0 9) (((32 : Int) * x2) + x1)) = 0 then zex 155 38 [(0, (0 : Int))] [(2, r0), (0, x1), (0, x2)] (zu M s0 s1 s2) X else zex 155 38 [(0, (1 : Int))] [(2, r0), (0, x1), (0, x2)] (zu M s0 s1 s2) X))))) :=
  (zblk 155 zc155 rfl [25, 38] 40 25 _ _ _ _).trans rfl
-- yX12_block
theorem q155_38 (s0 : Int) (r0 : Int) (x1 : Int) (x2 : Int) (M : zM) (X : zX) : zex 155 38 [(0, s0)] [(2, r0), (0, x1), (0, x2)] M X = some ((0, s0), M, X) :=
  (zblk 155 zc155 rfl [25, 38] 40 38 _ _ _ _).trans rfl
-- yX12_sand
set_option maxRecDepth 20000 in
theorem q156_0 (r0 : Int) (x1 : Int) (x2 : Int) (d3 : zV) (d4 : zV) (d5 : zV) (d6 : zV) (M : zM) (X : zX) : zex 156 0 [] [(2, r0), (0, x1), (0, x2), d3, d4, d5, d6] M X = zbI (zex 207 0 [] [(0, x1)] M X) (fun v1 M1 X1 => if v1 = 0 then zex 156 8 [] [(2, r0), (0, x1), (0, x2), d3, d4, d5, d6] M1 X1 else zbI (zex 143 0 [] [(0, x2), (0, (1 : Int)), (0, (30 : Int))] M1 X1) (fun v2 M2 X2 => if v2 = 0 then zex 156 8 [] [(2, r0), (0, x1), (0, x2), d3, d4, d5, d6] M2 X2 else zg (zkd X2 r0 = (18, 0) ∧ 0 < (M2 r0 37)) (zg ((zkd X2 (M2 r0 37)).1 = 0 ∧ 0 ≤ x1 ∧ x1 < ((zkd X2 (M2 r0 37)).2 : Int)) (if (M2 (M2 r0 37) x1) = 0 then zg (zkd X2 r0 = (18, 0)) (zbI (zex 144 0 [] [(2, r0), (0, (-11 : Int))] M2 X2) (fun v5 M5 X5 => some ((0, v5), M5, X5))) else zg (zkd X2 r0 = (18, 0) ∧ 0 < (M2 r0 37)) (zg ((zkd X2 (M2 r0 37)).1 = 0 ∧ 0 ≤ x1 ∧ x1 < ((zkd X2 (M2 r0 37)).2 : Int)) (if (M2 (M2 r0 37) x1) = (1 : Int) then zg (zkd X2 r0 = (18, 0) ∧ 0 < (M2 r0 38)) (zg ((zkd X2 (M2 r0 38)).1 = 0 ∧ 0 ≤ x1 ∧ x1 < ((zkd X2 (M2 r0 38)).2 : Int)) (if x2 ≤ (M2 (M2 r0 38) x1) then zex 156 43 [] [(2, r0), (0, x1), (0, x2), (0, (0 : Int)), (0, (0 : Int)), d5, d6] M2 X2 else zg (zkd X2 r0 = (18, 0)) (zbI (zex 144 0 [] [(2, r0), (0, (-13 : Int))] M2 X2) (fun v3 M3 X3 => some ((0, v3), M3, X3))))) else zg (zkd X2 r0 = (18, 0)) (zbI (zex 144 0 [] [(2, r0), (0, (-12 : Int))] M2 X2) (fun v4 M4 X4 => some ((0, v4), M4, X4))))))))) :=
  (zblk 156 zc156 rfl [8, 43, 63, 71, 74, 83] 107 0 _ _ _ _).trans rfl
-- yX12_sand
theorem q156_8 (r0 : Int) (x1 : Int) (x2 : Int) (d3 : zV) (d4 : zV) (d5 : zV) (d6 : zV) (M : zM) (X : zX) : zex 156 8 [] [(2, r0), (0, x1), (0, x2), d3, d4, d5, d6] M X = some ((0, (-1 : Int)), M, X) :=
  (zblk 156 zc156 rfl [8, 43, 63, 71, 74, 83] 107 8 _ _ _ _).trans rfl
-- yX12_sand
set_option maxRecDepth 20000 in
theorem q156_43 (r0 : Int) (x1 : Int) (x2 : Int) (x3 : Int) (x4 : Int) (d5 : zV) (d6 : zV) (M : zM) (X : zX) : zex 156 43 [] [(2, r0), (0, x1), (0, x2), (0, x3), (0, x4), d5, d6] M X = if x2 ≤ x4 then if x3 = 0 then some ((0, (-5 : Int)), M, X) else zex 156 83 [] [(2, r0), (0, x1), (0, x2), (0, x3), (0, (0 : Int)), d5, d6] M X else zg (zkd X r0 = (18, 0) ∧ 0 < (M r0 39)) (zg (zI ((64 : Int) * x1)) (zg (zI (((64 : Int) * x1) + x4)) (zg ((zkd X (M r0 39)).1 = 1 ∧ 0 ≤ (((64 : Int) * x1) + x4) ∧ (((64 : Int) * x1) + x4) < ((zkd X (M r0 39)).2 : Int)) (if (zcmp (M (M r0 39) (((64 : Int) * x1) + x4)) (0 : Int)) < 0 then zex 156 63 [] [(2, r0), (0, x1), (0, x2), (0, x3), (0, x4), (1, (M (M r0 39) (((64 : Int) * x1) + x4))), (9, 0)] M X else if (zcmp (M (M r0 39) (((64 : Int) * x1) + x4)) (9 : Int)) ≤ 0 then if x3 = 0 then if (zcmp (M (M r0 39) (((64 : Int) * x1) + x4)) (0 : Int)) ≤ 0 then zex 156 74 [(0, (0 : Int))] [(2, r0), (0, x1), (0, x2), (0, x3), (0, x4), (1, (M (M r0 39) (((64 : Int) * x1) + x4))), (9, 0)] M X else zex 156 71 [] [(2, r0), (0, x1), (0, x2), (0, x3), (0, x4), (1, (M (M r0 39) (((64 : Int) * x1) + x4))), (9, 0)] M X else zex 156 71 [] [(2, r0), (0, x1), (0, x2), (0, x3), (0, x4), (1, (M (M r0 39) (((64 : Int) * x1) + x4))), (9, 0)] M X else zex 156 63 [] [(2, r0), (0, x1), (0, x2), (0, x3), (0, x4), (1, (M (M r0 39) (((64 : Int) * x1) + x4))), (9, 0)] M X)))) :=
  (zblk 156 zc156 rfl [8, 43, 63, 71, 74, 83] 107 43 _ _ _ _).trans rfl
-- yX12_sand
theorem q156_63 (r0 : Int) (x1 : Int) (x2 : Int) (x3 : Int) (x4 : Int) (x5 : Int) (M : zM) (X : zX) : zex 156 63 [] [(2, r0), (0, x1), (0, x2), (0, x3), (0, x4), (1, x5), (9, 0)] M X = some ((0, (-5 : Int)), M, X) :=
  (zblk 156 zc156 rfl [8, 43, 63, 71, 74, 83] 107 63 _ _ _ _).trans rfl
-- yX12_sand
theorem q156_71 (r0 : Int) (x1 : Int) (x2 : Int) (x3 : Int) (x4 : Int) (x5 : Int) (M : zM) (X : zX) : zex 156 71 [] [(2, r0), (0, x1), (0, x2), (0, x3), (0, x4), (1, x5), (9, 0)] M X = zex 156 74 [(0, (1 : Int))] [(2, r0), (0, x1), (0, x2), (0, x3), (0, x4), (1, x5), (9, 0)] M X :=
  (zblk 156 zc156 rfl [8, 43, 63, 71, 74, 83] 107 71 _ _ _ _).trans rfl
-- yX12_sand
theorem q156_74 (s0 : Int) (r0 : Int) (x1 : Int) (x2 : Int) (x3 : Int) (x4 : Int) (x5 : Int) (M : zM) (X : zX) : zex 156 74 [(0, s0)] [(2, r0), (0, x1), (0, x2), (0, x3), (0, x4), (1, x5), (9, 0)] M X = zg (zI (x4 + (1 : Int))) (zex 156 43 [] [(2, r0), (0, x1), (0, x2), (0, s0), (0, (x4 + (1 : Int))), (1, x5), (9, 0)] M X) :=
  (zblk 156 zc156 rfl [8, 43, 63, 71, 74, 83] 107 74 _ _ _ _).trans rfl
-- yX12_sand
theorem q156_83 (r0 : Int) (x1 : Int) (x2 : Int) (x3 : Int) (x4 : Int) (d5 : zV) (d6 : zV) (M : zM) (X : zX) : zex 156 83 [] [(2, r0), (0, x1), (0, x2), (0, x3), (0, x4), d5, d6] M X = if x2 ≤ x4 then zg (zkd X r0 = (18, 0)) (some ((0, x2), (zu M r0 13 x2), X)) else zg (zkd X r0 = (18, 0) ∧ 0 < (M r0 14)) (zg (zkd X r0 = (18, 0) ∧ 0 < (M r0 39)) (zg (zI ((64 : Int) * x1)) (zg (zI (((64 : Int) * x1) + x4)) (zg ((zkd X (M r0 39)).1 = 1 ∧ 0 ≤ (((64 : Int) * x1) + x4) ∧ (((64 : Int) * x1) + x4) < ((zkd X (M r0 39)).2 : Int)) (zg ((zkd X (M r0 14)).1 = 0 ∧ 0 ≤ x4 ∧ x4 < ((zkd X (M r0 14)).2 : Int)) (zg (zI (x4 + (1 : Int))) (zex 156 83 [] [(2, r0), (0, x1), (0, x2), (0, x3), (0, (x4 + (1 : Int))), d5, d6] (zu M (M r0 14) x4 (Int.bmod (M (M r0 39) (((64 : Int) * x1) + x4)) 4294967296)) X))))))) :=
  (zblk 156 zc156 rfl [8, 43, 63, 71, 74, 83] 107 83 _ _ _ _).trans rfl
-- yX12_hold
theorem q157_0 (r0 : Int) (x1 : Int) (d2 : zV) (M : zM) (X : zX) : zex 157 0 [] [(2, r0), (0, x1), d2] M X = zbI (zex 143 0 [] [(0, x1), (0, (1 : Int)), (0, (9 : Int))] M X) (fun v1 M1 X1 => if v1 = 0 then some ((0, (-1 : Int)), M1, X1) else zg (zkd X1 r0 = (18, 0)) (zg (zkd X1 r0 = (18, 0)) (some ((0, (M1 r0 15)), (zu M1 r0 15 x1), X1)))) :=
  (zblk 157 zc157 rfl [] 16 0 _ _ _ _).trans rfl
-- yX12_fall
theorem q158_0 (r0 : Int) (x1 : Int) (d2 : zV) (M : zM) (X : zX) : zex 158 0 [] [(2, r0), (0, x1), d2] M X = zbI (zex 143 0 [] [(0, x1), (0, (0 : Int)), (0, (4000 : Int))] M X) (fun v1 M1 X1 => if v1 = 0 then some ((0, (-1 : Int)), M1, X1) else zg (zkd X1 r0 = (18, 0)) (zg (zkd X1 r0 = (18, 0)) (some ((0, (M1 r0 16)), (zu M1 r0 16 x1), X1)))) :=
  (zblk 158 zc158 rfl [] 16 0 _ _ _ _).trans rfl
-- yX12_cord
theorem q159_0 (r0 : Int) (x1 : Int) (d2 : zV) (d3 : zV) (M : zM) (X : zX) : zex 159 0 [] [(2, r0), (0, x1), d2, d3] M X = zbI (zex 146 0 [] [(0, x1)] M X) (fun v1 M1 X1 => if v1 = 0 then some ((0, (-1 : Int)), M1, X1) else zex 159 9 [] [(2, r0), (0, x1), (0, (0 : Int)), (0, (0 : Int))] M1 X1) :=
  (zblk 159 zc159 rfl [9] 31 0 _ _ _ _).trans rfl
-- yX12_cord
theorem q159_9 (r0 : Int) (x1 : Int) (x2 : Int) (x3 : Int) (M : zM) (X : zX) : zex 159 9 [] [(2, r0), (0, x1), (0, x2), (0, x3)] M X = zg (zkd X r0 = (18, 0) ∧ 0 < (M r0 1)) (zg ((zkd X (M r0 1)).1 = 0 ∧ 0 ≤ x1 ∧ x1 < ((zkd X (M r0 1)).2 : Int)) (if (M (M r0 1) x1) ≤ x3 then some ((0, x2), M, X) else zg (zkd X r0 = (18, 0) ∧ 0 < (M r0 3)) (zg (zI ((40 : Int) * x1)) (zg (zI (((40 : Int) * x1) + x3)) (zg ((zkd X (M r0 3)).1 = 0 ∧ 0 ≤ (((40 : Int) * x1) + x3) ∧ (((40 : Int) * x1) + x3) < ((zkd X (M r0 3)).2 : Int)) (zg (zI (x2 + (M (M r0 3) (((40 : Int) * x1) + x3)))) (zg (zI (x3 + (1 : Int))) (zex 159 9 [] [(2, r0), (0, x1), (0, (x2 + (M (M r0 3) (((40 : Int) * x1) + x3)))), (0, (x3 + (1 : Int)))] M X)))))))) :=
  (zblk 159 zc159 rfl [9] 31 9 _ _ _ _).trans rfl
-- yX12_unknowns
theorem q160_0 (r0 : Int) (d1 : zV) (d2 : zV) (d3 : zV) (M : zM) (X : zX) : zex 160 0 [] [(2, r0), d1, d2, d3] M X = zex 160 4 [] [(2, r0), (0, (0 : Int)), (0, (0 : Int)), d3] M X :=
  (zblk 160 zc160 rfl [4, 9, 29] 38 0 _ _ _ _).trans rfl
-- yX12_unknowns
theorem q160_4 (r0 : Int) (x1 : Int) (x2 : Int) (d3 : zV) (M : zM) (X : zX) : zex 160 4 [] [(2, r0), (0, x1), (0, x2), d3] M X = if (3 : Int) ≤ x2 then some ((0, x1), M, X) else zex 160 9 [] [(2, r0), (0, x1), (0, x2), (0, (0 : Int))] M X :=
  (zblk 160 zc160 rfl [4, 9, 29] 38 4 _ _ _ _).trans rfl
-- yX12_unknowns
theorem q160_9 (r0 : Int) (x1 : Int) (x2 : Int) (x3 : Int) (M : zM) (X : zX) : zex 160 9 [] [(2, r0), (0, x1), (0, x2), (0, x3)] M X = zg (zkd X r0 = (18, 0) ∧ 0 < (M r0 1)) (zg ((zkd X (M r0 1)).1 = 0 ∧ 0 ≤ x2 ∧ x2 < ((zkd X (M r0 1)).2 : Int)) (if (M (M r0 1) x2) ≤ x3 then zg (zI (x2 + (1 : Int))) (zex 160 4 [] [(2, r0), (0, x1), (0, (x2 + (1 : Int))), (0, x3)] M X) else zg (zkd X r0 = (18, 0) ∧ 0 < (M r0 2)) (zg (zI ((40 : Int) * x2)) (zg (zI (((40 : Int) * x2) + x3)) (zg ((zkd X (M r0 2)).1 = 0 ∧ 0 ≤ (((40 : Int) * x2) + x3) ∧ (((40 : Int) * x2) + x3) < ((zkd X (M r0 2)).2 : Int)) (if (M (M r0 2) (((40 : Int) * x2) + x3)) = (3 : Int) then zex 160 29 [(0, (1 : Int)), (0, x1)] [(2, r0), (0, x1), (0, x2), (0, x3)] M X else zex 160 29 [(0, (0 : Int)), (0, x1)] [(2, r0), (0, x1), (0, x2), (0, x3)] M X)))))) :=
  (zblk 160 zc160 rfl [4, 9, 29] 38 9 _ _ _ _).trans rfl
-- yX12_unknowns
theorem q160_29 (s0 : Int) (s1 : Int) (r0 : Int) (x1 : Int) (x2 : Int) (x3 : Int) (M : zM) (X : zX) : zex 160 29 [(0, s1), (0, s0)] [(2, r0), (0, x1), (0, x2), (0, x3)] M X = zg (zI (s0 + s1)) (zg (zI (x3 + (1 : Int))) (zex 160 9 [] [(2, r0), (0, (s0 + s1)), (0, x2), (0, (x3 + (1 : Int)))] M X)) :=
  (zblk 160 zc160 rfl [4, 9, 29] 38 29 _ _ _ _).trans rfl
-- yX12_sets
theorem q161_0 (r0 : Int) (d1 : zV) (M : zM) (X : zX) : zex 161 0 [] [(2, r0), d1] M X = zex 161 2 [] [(2, r0), (0, (0 : Int))] M X :=
  (zblk 161 zc161 rfl [2, 13, 23, 31, 35, 38, 41, 44, 46, 54, 59] 63 0 _ _ _ _).trans rfl
-- yX12_sets
theorem q161_2 (r0 : Int) (x1 : Int) (M : zM) (X : zX) : zex 161 2 [] [(2, r0), (0, x1)] M X = if (120 : Int) ≤ x1 then zg (zkd X r0 = (18, 0)) (zg (zI ((1000 : Int) * (M r0 10))) (zg (zI (((1000 : Int) * (M r0 10)) + (500 : Int))) (zg (zkd X r0 = (18, 0)) (zex 161 23 [] [(2, r0), (0, x1)] (zu M r0 52 (((1000 : Int) * (M r0 10)) + (500 : Int))) X)))) else zg (zkd X r0 = (18, 0) ∧ 0 < (M r0 48)) (zg (zkd X r0 = (18, 0) ∧ 0 < (M r0 2)) (zg ((zkd X (M r0 2)).1 = 0 ∧ 0 ≤ x1 ∧ x1 < ((zkd X (M r0 2)).2 : Int)) (zg ((zkd X (M r0 48)).1 = 0 ∧ 0 ≤ x1 ∧ x1 < ((zkd X (M r0 48)).2 : Int)) (zex 161 13 [] [(2, r0), (0, x1)] (zu M (M r0 48) x1 (M (M r0 2) x1)) X)))) :=
  (zblk 161 zc161 rfl [2, 13, 23, 31, 35, 38, 41, 44, 46, 54, 59] 63 2 _ _ _ _).trans rfl
-- yX12_sets
theorem q161_13 (r0 : Int) (x1 : Int) (M : zM) (X : zX) : zex 161 13 [] [(2, r0), (0, x1)] M X = zg (zI (x1 + (1 : Int))) (zex 161 2 [] [(2, r0), (0, (x1 + (1 : Int)))] M X) :=
  (zblk 161 zc161 rfl [2, 13, 23, 31, 35, 38, 41, 44, 46, 54, 59] 63 13 _ _ _ _).trans rfl
-- yX12_sets
theorem q161_23 (r0 : Int) (x1 : Int) (M : zM) (X : zX) : zex 161 23 [] [(2, r0), (0, x1)] M X = zg (zkd X r0 = (18, 0)) (zg (zI ((1000 : Int) * (M r0 11))) (zg (zI (((1000 : Int) * (M r0 11)) + (500 : Int))) (zg (zkd X r0 = (18, 0)) (zex 161 31 [] [(2, r0), (0, x1)] (zu M r0 53 (((1000 : Int) * (M r0 11)) + (500 : Int))) X)))) :=
  (zblk 161 zc161 rfl [2, 13, 23, 31, 35, 38, 41, 44, 46, 54, 59] 63 23 _ _ _ _).trans rfl
-- yX12_sets
theorem q161_31 (r0 : Int) (x1 : Int) (M : zM) (X : zX) : zex 161 31 [] [(2, r0), (0, x1)] M X = zg (zkd X r0 = (18, 0)) (zg (zkd X r0 = (18, 0)) (zex 161 35 [] [(2, r0), (0, x1)] (zu M r0 54 (M r0 12)) X)) :=
  (zblk 161 zc161 rfl [2, 13, 23, 31, 35, 38, 41, 44, 46, 54, 59] 63 31 _ _ _ _).trans rfl
-- yX12_sets
theorem q161_35 (r0 : Int) (x1 : Int) (M : zM) (X : zX) : zex 161 35 [] [(2, r0), (0, x1)] M X = zg (zkd X r0 = (18, 0)) (zex 161 38 [] [(2, r0), (0, x1)] (zu M r0 55 (0 : Int)) X) :=
  (zblk 161 zc161 rfl [2, 13, 23, 31, 35, 38, 41, 44, 46, 54, 59] 63 35 _ _ _ _).trans rfl
-- yX12_sets
theorem q161_38 (r0 : Int) (x1 : Int) (M : zM) (X : zX) : zex 161 38 [] [(2, r0), (0, x1)] M X = zg (zkd X r0 = (18, 0)) (zex 161 41 [] [(2, r0), (0, x1)] (zu M r0 56 (0 : Int)) X) :=
  (zblk 161 zc161 rfl [2, 13, 23, 31, 35, 38, 41, 44, 46, 54, 59] 63 38 _ _ _ _).trans rfl
-- yX12_sets
theorem q161_41 (r0 : Int) (x1 : Int) (M : zM) (X : zX) : zex 161 41 [] [(2, r0), (0, x1)] M X = zg (zkd X r0 = (18, 0)) (zex 161 44 [] [(2, r0), (0, x1)] (zu M r0 57 (0 : Int)) X) :=
  (zblk 161 zc161 rfl [2, 13, 23, 31, 35, 38, 41, 44, 46, 54, 59] 63 41 _ _ _ _).trans rfl
-- yX12_sets
theorem q161_44 (r0 : Int) (x1 : Int) (M : zM) (X : zX) : zex 161 44 [] [(2, r0), (0, x1)] M X = zex 161 46 [] [(2, r0), (0, (0 : Int))] M X :=
  (zblk 161 zc161 rfl [2, 13, 23, 31, 35, 38, 41, 44, 46, 54, 59] 63 44 _ _ _ _).trans rfl
-- yX12_sets
theorem q161_46 (r0 : Int) (x1 : Int) (M : zM) (X : zX) : zex 161 46 [] [(2, r0), (0, x1)] M X = if (3 : Int) ≤ x1 then some ((9, 0), M, X) else zg (zkd X r0 = (18, 0) ∧ 0 < (M r0 49)) (zg ((zkd X (M r0 49)).1 = 0 ∧ 0 ≤ x1 ∧ x1 < ((zkd X (M r0 49)).2 : Int)) (zex 161 54 [] [(2, r0), (0, x1)] (zu M (M r0 49) x1 (0 : Int)) X)) :=
  (zblk 161 zc161 rfl [2, 13, 23, 31, 35, 38, 41, 44, 46, 54, 59] 63 46 _ _ _ _).trans rfl
-- yX12_sets
theorem q161_54 (r0 : Int) (x1 : Int) (M : zM) (X : zX) : zex 161 54 [] [(2, r0), (0, x1)] M X = zg (zkd X r0 = (18, 0) ∧ 0 < (M r0 50)) (zg ((zkd X (M r0 50)).1 = 0 ∧ 0 ≤ x1 ∧ x1 < ((zkd X (M r0 50)).2 : Int)) (zex 161 59 [] [(2, r0), (0, x1)] (zu M (M r0 50) x1 (0 : Int)) X)) :=
  (zblk 161 zc161 rfl [2, 13, 23, 31, 35, 38, 41, 44, 46, 54, 59] 63 54 _ _ _ _).trans rfl
-- yX12_sets
theorem q161_59 (r0 : Int) (x1 : Int) (M : zM) (X : zX) : zex 161 59 [] [(2, r0), (0, x1)] M X = zg (zI (x1 + (1 : Int))) (zex 161 46 [] [(2, r0), (0, (x1 + (1 : Int)))] M X) :=
  (zblk 161 zc161 rfl [2, 13, 23, 31, 35, 38, 41, 44, 46, 54, 59] 63 59 _ _ _ _).trans rfl
-- yX12_isOut
set_option maxRecDepth 20000 in
theorem q162_0 (r0 : Int) (M : zM) (X : zX) : zex 162 0 [] [(2, r0)] M X = zg (zkd X r0 = (18, 0) ∧ 0 < (M r0 49)) (zg ((zkd X (M r0 49)).1 = 0 ∧ 0 ≤ (0 : Int) ∧ (0 : Int) < ((zkd X (M r0 49)).2 : Int)) (zg (zkd X r0 = (18, 0) ∧ 0 < (M r0 1)) (zg ((zkd X (M r0 1)).1 = 0 ∧ 0 ≤ (0 : Int) ∧ (0 : Int) < ((zkd X (M r0 1)).2 : Int)) (if (M (M r0 49) (0 : Int)) = (M (M r0 1) (0 : Int)) then zg (zkd X r0 = (18, 0) ∧ 0 < (M r0 49)) (zg ((zkd X (M r0 49)).1 = 0 ∧ 0 ≤ (1 : Int) ∧ (1 : Int) < ((zkd X (M r0 49)).2 : Int)) (zg (zkd X r0 = (18, 0) ∧ 0 < (M r0 1)) (zg ((zkd X (M r0 1)).1 = 0 ∧ 0 ≤ (1 : Int) ∧ (1 : Int) < ((zkd X (M r0 1)).2 : Int)) (if (M (M r0 49) (1 : Int)) = (M (M r0 1) (1 : Int)) then zg (zkd X r0 = (18, 0) ∧ 0 < (M r0 49)) (zg ((zkd X (M r0 49)).1 = 0 ∧ 0 ≤ (2 : Int) ∧ (2 : Int) < ((zkd X (M r0 49)).2 : Int)) (zg (zkd X r0 = (18, 0) ∧ 0 < (M r0 1)) (zg ((zkd X (M r0 1)).1 = 0 ∧ 0 ≤ (2 : Int) ∧ (2 : Int) < ((zkd X (M r0 1)).2 : Int)) (if (M (M r0 49) (2 : Int)) = (M (M r0 1) (2 : Int)) then zex 162 30 [(0, (1 : Int))] [(2, r0)] M X else zex 162 29 [] [(2, r0)] M X)))) else zex 162 29 [] [(2, r0)] M X)))) else zex 162 29 [] [(2, r0)] M X)))) :=
  (zblk 162 zc162 rfl [29, 30] 32 0 _ _ _ _).trans rfl
-- yX12_isOut
theorem q162_29 (r0 : Int) (M : zM) (X : zX) : zex 162 29 [] [(2, r0)] M X = zex 162 30 [(0, (0 : Int))] [(2, r0)] M X :=
  (zblk 162 zc162 rfl [29, 30] 32 29 _ _ _ _).trans rfl
-- yX12_isOut
theorem q162_30 (s0 : Int) (r0 : Int) (M : zM) (X : zX) : zex 162 30 [(0, s0)] [(2, r0)] M X = zg (s0 = 0 ∨ s0 = 1) (some ((0, s0), M, X)) :=
  (zblk 162 zc162 rfl [29, 30] 32 30 _ _ _ _).trans rfl
-- yX12_half
theorem q163_0 (x0 : Int) (x1 : Int) (d2 : zV) (d3 : zV) (d4 : zV) (d5 : zV) (d6 : zV) (d7 : zV) (M : zM) (X : zX) : zex 163 0 [] [(0, x0), (0, x1), d2, d3, d4, d5, d6, d7] M X = zg (0 < (4 : Int)) (if (Int.tmod x0 (4 : Int)) = 0 then zex 163 19 [(0, (500 : Int))] [(0, x0), (0, x1), (0, (Int.tmod x0 (4 : Int))), d3, d4, d5, d6, d7] M X else if (Int.tmod x0 (4 : Int)) = (1 : Int) then zex 163 19 [(0, (462 : Int))] [(0, x0), (0, x1), (0, (Int.tmod x0 (4 : Int))), d3, d4, d5, d6, d7] M X else if (Int.tmod x0 (4 : Int)) = (2 : Int) then zex 163 19 [(0, (354 : Int))] [(0, x0), (0, x1), (0, (Int.tmod x0 (4 : Int))), d3, d4, d5, d6, d7] M X else zex 163 19 [(0, (191 : Int))] [(0, x0), (0, x1), (0, (Int.tmod x0 (4 : Int))), d3, d4, d5, d6, d7] M X) :=
  (zblk 163 zc163 rfl [19, 35, 57, 75, 81] 83 0 _ _ _ _).trans rfl
-- yX12_half
theorem q163_19 (s0 : Int) (x0 : Int) (x1 : Int) (x2 : Int) (d3 : zV) (d4 : zV) (d5 : zV) (d6 : zV) (d7 : zV) (M : zM) (X : zX) : zex 163 19 [(0, s0)] [(0, x0), (0, x1), (0, x2), d3, d4, d5, d6, d7] M X = if x2 = 0 then zex 163 35 [(0, (0 : Int))] [(0, x0), (0, x1), (0, x2), (0, s0), d4, d5, d6, d7] M X else if x2 = (1 : Int) then zex 163 35 [(0, (191 : Int))] [(0, x0), (0, x1), (0, x2), (0, s0), d4, d5, d6, d7] M X else if x2 = (2 : Int) then zex 163 35 [(0, (354 : Int))] [(0, x0), (0, x1), (0, x2), (0, s0), d4, d5, d6, d7] M X else zex 163 35 [(0, (462 : Int))] [(0, x0), (0, x1), (0, x2), (0, s0), d4, d5, d6, d7] M X :=
  (zblk 163 zc163 rfl [19, 35, 57, 75, 81] 83 19 _ _ _ _).trans rfl
-- yX12_half
theorem q163_35 (s0 : Int) (x0 : Int) (x1 : Int) (x2 : Int) (x3 : Int) (d4 : zV) (d5 : zV) (d6 : zV) (d7 : zV) (M : zM) (X : zX) : zex 163 35 [(0, s0)] [(0, x0), (0, x1), (0, x2), (0, x3), d4, d5, d6, d7] M X = zg (0 < (4 : Int)) (if (Int.tdiv x0 (4 : Int)) = 0 then zex 163 57 [(0, x3)] [(0, x0), (0, x1), (0, x2), (0, x3), (0, s0), (0, (Int.tdiv x0 (4 : Int))), d6, d7] M X else if (Int.tdiv x0 (4 : Int)) = (1 : Int) then zg (zI (-s0)) (zex 163 57 [(0, (-s0))] [(0, x0), (0, x1), (0, x2), (0, x3), (0, s0), (0, (Int.tdiv x0 (4 : Int))), d6, d7] M X) else if (Int.tdiv x0 (4 : Int)) = (2 : Int) then zg (zI (-x3)) (zex 163 57 [(0, (-x3))] [(0, x0), (0, x1), (0, x2), (0, x3), (0, s0), (0, (Int.tdiv x0 (4 : Int))), d6, d7] M X) else zex 163 57 [(0, s0)] [(0, x0), (0, x1), (0, x2), (0, x3), (0, s0), (0, (Int.tdiv x0 (4 : Int))), d6, d7] M X) :=
  (zblk 163 zc163 rfl [19, 35, 57, 75, 81] 83 35 _ _ _ _).trans rfl
-- yX12_half
theorem q163_57 (s0 : Int) (x0 : Int) (x1 : Int) (x2 : Int) (x3 : Int) (x4 : Int) (x5 : Int) (d6 : zV) (d7 : zV) (M : zM) (X : zX) : zex 163 57 [(0, s0)] [(0, x0), (0, x1), (0, x2), (0, x3), (0, x4), (0, x5), d6, d7] M X = if x5 = 0 then zex 163 75 [(0, x4)] [(0, x0), (0, x1), (0, x2), (0, x3), (0, x4), (0, x5), (0, s0), d7] M X else if x5 = (1 : Int) then zex 163 75 [(0, x3)] [(0, x0), (0, x1), (0, x2), (0, x3), (0, x4), (0, x5), (0, s0), d7] M X else if x5 = (2 : Int) then zg (zI (-x4)) (zex 163 75 [(0, (-x4))] [(0, x0), (0, x1), (0, x2), (0, x3), (0, x4), (0, x5), (0, s0), d7] M X) else zg (zI (-x3)) (zex 163 75 [(0, (-x3))] [(0, x0), (0, x1), (0, x2), (0, x3), (0, x4), (0, x5), (0, s0), d7] M X) :=
  (zblk 163 zc163 rfl [19, 35, 57, 75, 81] 83 57 _ _ _ _).trans rfl
-- yX12_half
theorem q163_75 (s0 : Int) (x0 : Int) (x1 : Int) (x2 : Int) (x3 : Int) (x4 : Int) (x5 : Int) (x6 : Int) (d7 : zV) (M : zM) (X : zX) : zex 163 75 [(0, s0)] [(0, x0), (0, x1), (0, x2), (0, x3), (0, x4), (0, x5), (0, x6), d7] M X = if x1 = 0 then zex 163 81 [(0, s0)] [(0, x0), (0, x1), (0, x2), (0, x3), (0, x4), (0, x5), (0, x6), (0, s0)] M X else zex 163 81 [(0, x6)] [(0, x0), (0, x1), (0, x2), (0, x3), (0, x4), (0, x5), (0, x6), (0, s0)] M X :=
  (zblk 163 zc163 rfl [19, 35, 57, 75, 81] 83 75 _ _ _ _).trans rfl
-- yX12_half
theorem q163_81 (s0 : Int) (x0 : Int) (x1 : Int) (x2 : Int) (x3 : Int) (x4 : Int) (x5 : Int) (x6 : Int) (x7 : Int) (M : zM) (X : zX) : zex 163 81 [(0, s0)] [(0, x0), (0, x1), (0, x2), (0, x3), (0, x4), (0, x5), (0, x6), (0, x7)] M X = some ((0, s0), M, X) :=
  (zblk 163 zc163 rfl [19, 35, 57, 75, 81] 83 81 _ _ _ _).trans rfl
-- yX12_falls
theorem q164_0 (r0 : Int) (x1 : Int) (d2 : zV) (d3 : zV) (M : zM) (X : zX) : zex 164 0 [] [(2, r0), (0, x1), d2, d3] M X = zg (zkd X r0 = (18, 0)) (zg (zI ((M r0 57) + (1 : Int))) (zg (zkd X r0 = (18, 0)) (zex 164 6 [] [(2, r0), (0, x1), d2, d3] (zu M r0 57 ((M r0 57) + (1 : Int))) X))) :=
  (zblk 164 zc164 rfl [6, 8, 16, 53, 54, 62, 94, 102, 107, 130, 141, 155, 171, 179, 196, 204, 213] 215 0 _ _ _ _).trans rfl
-- yX12_falls
theorem q164_6 (r0 : Int) (x1 : Int) (d2 : zV) (d3 : zV) (M : zM) (X : zX) : zex 164 6 [] [(2, r0), (0, x1), d2, d3] M X = zex 164 8 [] [(2, r0), (0, x1), (0, (0 : Int)), d3] M X :=
  (zblk 164 zc164 rfl [6, 8, 16, 53, 54, 62, 94, 102, 107, 130, 141, 155, 171, 179, 196, 204, 213] 215 6 _ _ _ _).trans rfl
-- yX12_falls
set_option maxRecDepth 20000 in
theorem q164_8 (r0 : Int) (x1 : Int) (x2 : Int) (d3 : zV) (M : zM) (X : zX) : zex 164 8 [] [(2, r0), (0, x1), (0, x2), d3] M X = if (3 : Int) ≤ x2 then zg (zkd X r0 = (18, 0) ∧ 0 < (M r0 51)) (zg ((zkd X (M r0 51)).1 = 0 ∧ 0 ≤ (0 : Int) ∧ (0 : Int) < ((zkd X (M r0 51)).2 : Int)) (zg (zkd X r0 = (18, 0) ∧ 0 < (M r0 51)) (zg ((zkd X (M r0 51)).1 = 0 ∧ 0 ≤ (1 : Int) ∧ (1 : Int) < ((zkd X (M r0 51)).2 : Int)) (zg (zI ((M (M r0 51) (0 : Int)) + (M (M r0 51) (1 : Int)))) (zg (zkd X r0 = (18, 0)) (zg (zkd X r0 = (18, 0)) (zbI (zex 163 0 [] [(0, (M r0 54)), (0, (1 : Int)), (9, 0), (9, 0), (9, 0), (9, 0), (9, 0), (9, 0)] M X) (fun v1 M1 X1 => zg (zI (((M (M r0 51) (0 : Int)) + (M (M r0 51) (1 : Int))) * v1)) (zg (zI ((M r0 52) + (((M (M r0 51) (0 : Int)) + (M (M r0 51) (1 : Int))) * v1))) (zg (zkd X1 r0 = (18, 0)) (zex 164 130 [] [(2, r0), (0, x1), (0, ((M (M r0 51) (0 : Int)) + (M (M r0 51) (1 : Int)))), d3] (zu M1 r0 52 ((M r0 52) + (((M (M r0 51) (0 : Int)) + (M (M r0 51) (1 : Int))) * v1))) X1))))))))))) else zg (zkd X r0 = (18, 0) ∧ 0 < (M r0 51)) (zg ((zkd X (M r0 51)).1 = 0 ∧ 0 ≤ x2 ∧ x2 < ((zkd X (M r0 51)).2 : Int)) (zex 164 16 [] [(2, r0), (0, x1), (0, x2), d3] (zu M (M r0 51) x2 (0 : Int)) X)) :=
  (zblk 164 zc164 rfl [6, 8, 16, 53, 54, 62, 94, 102, 107, 130, 141, 155, 171, 179, 196, 204, 213] 215 8 _ _ _ _).trans rfl
-- yX12_falls
set_option maxRecDepth 20000 in
theorem q164_16 (r0 : Int) (x1 : Int) (x2 : Int) (d3 : zV) (M : zM) (X : zX) : zex 164 16 [] [(2, r0), (0, x1), (0, x2), d3] M X = zg (zkd X r0 = (18, 0) ∧ 0 < (M r0 49)) (zg ((zkd X (M r0 49)).1 = 0 ∧ 0 ≤ x2 ∧ x2 < ((zkd X (M r0 49)).2 : Int)) (zg (zkd X r0 = (18, 0) ∧ 0 < (M r0 1)) (zg ((zkd X (M r0 1)).1 = 0 ∧ 0 ≤ x2 ∧ x2 < ((zkd X (M r0 1)).2 : Int)) (if (M (M r0 1) x2) ≤ (M (M r0 49) x2) then zex 164 107 [] [(2, r0), (0, x1), (0, x2), d3] M X else zg (zI ((40 : Int) * x2)) (zg (zkd X r0 = (18, 0) ∧ 0 < (M r0 49)) (zg ((zkd X (M r0 49)).1 = 0 ∧ 0 ≤ x2 ∧ x2 < ((zkd X (M r0 49)).2 : Int)) (zg (zI (((40 : Int) * x2) + (M (M r0 49) x2))) (zg (zkd X r0 = (18, 0) ∧ 0 < (M r0 51)) (zg (zkd X r0 = (18, 0) ∧ 0 < (M r0 48)) (zg ((zkd X (M r0 48)).1 = 0 ∧ 0 ≤ (((40 : Int) * x2) + (M (M r0 49) x2)) ∧ (((40 : Int) * x2) + (M (M r0 49) x2)) < ((zkd X (M r0 48)).2 : Int)) (if (M (M r0 48) (((40 : Int) * x2) + (M (M r0 49) x2))) = 0 then zex 164 53 [(0, (1 : Int)), (0, x2), (2, (M r0 51))] [(2, r0), (0, x1), (0, x2), (0, (((40 : Int) * x2) + (M (M r0 49) x2)))] M X else zg (zkd X r0 = (18, 0) ∧ 0 < (M r0 48)) (zg ((zkd X (M r0 48)).1 = 0 ∧ 0 ≤ (((40 : Int) * x2) + (M (M r0 49) x2)) ∧ (((40 : Int) * x2) + (M (M r0 49) x2)) < ((zkd X (M r0 48)).2 : Int)) (if (M (M r0 48) (((40 : Int) * x2) + (M (M r0 49) x2))) = (1 : Int) then zex 164 53 [(0, (-1 : Int)), (0, x2), (2, (M r0 51))] [(2, r0), (0, x1), (0, x2), (0, (((40 : Int) * x2) + (M (M r0 49) x2)))] M X else zex 164 53 [(0, (0 : Int)), (0, x2), (2, (M r0 51))] [(2, r0), (0, x1), (0, x2), (0, (((40 : Int) * x2) + (M (M r0 49) x2)))] M X))))))))))))) :=
  (zblk 164 zc164 rfl [6, 8, 16, 53, 54, 62, 94, 102, 107, 130, 141, 155, 171, 179, 196, 204, 213] 215 16 _ _ _ _).trans rfl
-- yX12_falls
theorem q164_53 (s0 : Int) (s1 : Int) (s2 : Int) (r0 : Int) (x1 : Int) (x2 : Int) (x3 : Int) (M : zM) (X : zX) : zex 164 53 [(0, s2), (0, s1), (2, s0)] [(2, r0), (0, x1), (0, x2), (0, x3)] M X = zg ((zkd X s0).1 = 0 ∧ 0 ≤ s1 ∧ s1 < ((zkd X s0).2 : Int)) (zex 164 54 [] [(2, r0), (0, x1), (0, x2), (0, x3)] (zu M s0 s1 s2) X) :=
  (zblk 164 zc164 rfl [6, 8, 16, 53, 54, 62, 94, 102, 107, 130, 141, 155, 171, 179, 196, 204, 213] 215 53 _ _ _ _).trans rfl
-- yX12_falls
theorem q164_54 (r0 : Int) (x1 : Int) (x2 : Int) (x3 : Int) (M : zM) (X : zX) : zex 164 54 [] [(2, r0), (0, x1), (0, x2), (0, x3)] M X = zg (zkd X r0 = (18, 0) ∧ 0 < (M r0 50)) (zg ((zkd X (M r0 50)).1 = 0 ∧ 0 ≤ x2 ∧ x2 < ((zkd X (M r0 50)).2 : Int)) (zg (zI ((M (M r0 50) x2) + (1 : Int))) (zg ((zkd X (M r0 50)).1 = 0 ∧ 0 ≤ x2 ∧ x2 < ((zkd X (M r0 50)).2 : Int)) (zex 164 62 [] [(2, r0), (0, x1), (0, x2), (0, x3)] (zu M (M r0 50) x2 ((M (M r0 50) x2) + (1 : Int))) X)))) :=
  (zblk 164 zc164 rfl [6, 8, 16, 53, 54, 62, 94, 102, 107, 130, 141, 155, 171, 179, 196, 204, 213] 215 54 _ _ _ _).trans rfl
-- yX12_falls
set_option maxRecDepth 20000 in
theorem q164_62 (r0 : Int) (x1 : Int) (x2 : Int) (x3 : Int) (M : zM) (X : zX) : zex 164 62 [] [(2, r0), (0, x1), (0, x2), (0, x3)] M X = zg (zkd X r0 = (18, 0) ∧ 0 < (M r0 50)) (zg ((zkd X (M r0 50)).1 = 0 ∧ 0 ≤ x2 ∧ x2 < ((zkd X (M r0 50)).2 : Int)) (zg (zkd X r0 = (18, 0) ∧ 0 < (M r0 3)) (zg ((zkd X (M r0 3)).1 = 0 ∧ 0 ≤ x3 ∧ x3 < ((zkd X (M r0 3)).2 : Int)) (if (M (M r0 50) x2) = (M (M r0 3) x3) then if x1 = 0 then zex 164 94 [] [(2, r0), (0, x1), (0, x2), (0, x3)] M X else zg (zkd X r0 = (18, 0) ∧ 0 < (M r0 4)) (zg ((zkd X (M r0 4)).1 = 0 ∧ 0 ≤ x3 ∧ x3 < ((zkd X (M r0 4)).2 : Int)) (if (M (M r0 4) x3) = (1 : Int) then zg (zkd X r0 = (18, 0) ∧ 0 < (M r0 49)) (zg ((zkd X (M r0 49)).1 = 0 ∧ 0 ≤ x2 ∧ x2 < ((zkd X (M r0 49)).2 : Int)) (zg (zI ((M (M r0 49) x2) + (1 : Int))) (zg (zkd X r0 = (18, 0) ∧ 0 < (M r0 1)) (zg ((zkd X (M r0 1)).1 = 0 ∧ 0 ≤ x2 ∧ x2 < ((zkd X (M r0 1)).2 : Int)) (if (M (M r0 1) x2) ≤ ((M (M r0 49) x2) + (1 : Int)) then zex 164 94 [] [(2, r0), (0, x1), (0, x2), (0, x3)] M X else zg (zkd X r0 = (18, 0)) (zbN (zex 165 0 [] [(2, r0), (0, x2), (0, x3)] M X) (fun M1 X1 => zex 164 94 [] [(2, r0), (0, x1), (0, x2), (0, x3)] M1 X1))))))) else zex 164 94 [] [(2, r0), (0, x1), (0, x2), (0, x3)] M X)) else zex 164 107 [] [(2, r0), (0, x1), (0, x2), (0, x3)] M X)))) :=
  (zblk 164 zc164 rfl [6, 8, 16, 53, 54, 62, 94, 102, 107, 130, 141, 155, 171, 179, 196, 204, 213] 215 62 _ _ _ _).trans rfl
-- yX12_falls
theorem q164_94 (r0 : Int) (x1 : Int) (x2 : Int) (x3 : Int) (M : zM) (X : zX) : zex 164 94 [] [(2, r0), (0, x1), (0, x2), (0, x3)] M X = zg (zkd X r0 = (18, 0) ∧ 0 < (M r0 49)) (zg ((zkd X (M r0 49)).1 = 0 ∧ 0 ≤ x2 ∧ x2 < ((zkd X (M r0 49)).2 : Int)) (zg (zI ((M (M r0 49) x2) + (1 : Int))) (zg ((zkd X (M r0 49)).1 = 0 ∧ 0 ≤ x2 ∧ x2 < ((zkd X (M r0 49)).2 : Int)) (zex 164 102 [] [(2, r0), (0, x1), (0, x2), (0, x3)] (zu M (M r0 49) x2 ((M (M r0 49) x2) + (1 : Int))) X)))) :=
  (zblk 164 zc164 rfl [6, 8, 16, 53, 54, 62, 94, 102, 107, 130, 141, 155, 171, 179, 196, 204, 213] 215 94 _ _ _ _).trans rfl
-- yX12_falls
theorem q164_102 (r0 : Int) (x1 : Int) (x2 : Int) (x3 : Int) (M : zM) (X : zX) : zex 164 102 [] [(2, r0), (0, x1), (0, x2), (0, x3)] M X = zg (zkd X r0 = (18, 0) ∧ 0 < (M r0 50)) (zg ((zkd X (M r0 50)).1 = 0 ∧ 0 ≤ x2 ∧ x2 < ((zkd X (M r0 50)).2 : Int)) (zex 164 107 [] [(2, r0), (0, x1), (0, x2), (0, x3)] (zu M (M r0 50) x2 (0 : Int)) X)) :=
  (zblk 164 zc164 rfl [6, 8, 16, 53, 54, 62, 94, 102, 107, 130, 141, 155, 171, 179, 196, 204, 213] 215 102 _ _ _ _).trans rfl
-- yX12_falls
theorem q164_107 (r0 : Int) (x1 : Int) (x2 : Int) (d3 : zV) (M : zM) (X : zX) : zex 164 107 [] [(2, r0), (0, x1), (0, x2), d3] M X = zg (zI (x2 + (1 : Int))) (zex 164 8 [] [(2, r0), (0, x1), (0, (x2 + (1 : Int))), d3] M X) :=
  (zblk 164 zc164 rfl [6, 8, 16, 53, 54, 62, 94, 102, 107, 130, 141, 155, 171, 179, 196, 204, 213] 215 107 _ _ _ _).trans rfl
-- yX12_falls
theorem q164_130 (r0 : Int) (x1 : Int) (x2 : Int) (d3 : zV) (M : zM) (X : zX) : zex 164 130 [] [(2, r0), (0, x1), (0, x2), d3] M X = zg (zkd X r0 = (18, 0)) (zg (zkd X r0 = (18, 0)) (zbI (zex 163 0 [] [(0, (M r0 54)), (0, (0 : Int)), (9, 0), (9, 0), (9, 0), (9, 0), (9, 0), (9, 0)] M X) (fun v1 M1 X1 => zg (zI (x2 * v1)) (zg (zI ((M r0 53) + (x2 * v1))) (zg (zkd X1 r0 = (18, 0)) (zex 164 141 [] [(2, r0), (0, x1), (0, x2), d3] (zu M1 r0 53 ((M r0 53) + (x2 * v1))) X1)))))) :=
  (zblk 164 zc164 rfl [6, 8, 16, 53, 54, 62, 94, 102, 107, 130, 141, 155, 171, 179, 196, 204, 213] 215 130 _ _ _ _).trans rfl
-- yX12_falls
theorem q164_141 (r0 : Int) (x1 : Int) (x2 : Int) (d3 : zV) (M : zM) (X : zX) : zex 164 141 [] [(2, r0), (0, x1), (0, x2), d3] M X = zg (zkd X r0 = (18, 0)) (zg (zkd X r0 = (18, 0) ∧ 0 < (M r0 51)) (zg ((zkd X (M r0 51)).1 = 0 ∧ 0 ≤ (1 : Int) ∧ (1 : Int) < ((zkd X (M r0 51)).2 : Int)) (zg (zkd X r0 = (18, 0) ∧ 0 < (M r0 51)) (zg ((zkd X (M r0 51)).1 = 0 ∧ 0 ≤ (0 : Int) ∧ (0 : Int) < ((zkd X (M r0 51)).2 : Int)) (zg (zI ((M (M r0 51) (1 : Int)) - (M (M r0 51) (0 : Int)))) (zg (zI ((M r0 55) + ((M (M r0 51) (1 : Int)) - (M (M r0 51) (0 : Int))))) (zg (zkd X r0 = (18, 0)) (zex 164 155 [] [(2, r0), (0, x1), (0, x2), d3] (zu M r0 55 ((M r0 55) + ((M (M r0 51) (1 : Int)) - (M (M r0 51) (0 : Int))))) X)))))))) :=
  (zblk 164 zc164 rfl [6, 8, 16, 53, 54, 62, 94, 102, 107, 130, 141, 155, 171, 179, 196, 204, 213] 215 141 _ _ _ _).trans rfl
-- yX12_falls
theorem q164_155 (r0 : Int) (x1 : Int) (x2 : Int) (d3 : zV) (M : zM) (X : zX) : zex 164 155 [] [(2, r0), (0, x1), (0, x2), d3] M X = zg (zkd X r0 = (18, 0)) (zg (zkd X r0 = (18, 0)) (zg (zI ((2 : Int) * (M r0 5))) (if (M r0 55) < ((2 : Int) * (M r0 5)) then zg (zkd X r0 = (18, 0)) (zg (zkd X r0 = (18, 0)) (zg (zI ((-2 : Int) * (M r0 5))) (if ((-2 : Int) * (M r0 5)) < (M r0 55) then zex 164 204 [] [(2, r0), (0, x1), (0, x2), d3] M X else zg (zkd X r0 = (18, 0)) (zg (zkd X r0 = (18, 0)) (zg (zI ((2 : Int) * (M r0 5))) (zg (zI ((M r0 55) + ((2 : Int) * (M r0 5)))) (zg (zkd X r0 = (18, 0)) (zex 164 196 [] [(2, r0), (0, x1), (0, x2), d3] (zu M r0 55 ((M r0 55) + ((2 : Int) * (M r0 5)))) X)))))))) else zg (zkd X r0 = (18, 0)) (zg (zkd X r0 = (18, 0)) (zg (zI ((2 : Int) * (M r0 5))) (zg (zI ((M r0 55) - ((2 : Int) * (M r0 5)))) (zg (zkd X r0 = (18, 0)) (zex 164 171 [] [(2, r0), (0, x1), (0, x2), d3] (zu M r0 55 ((M r0 55) - ((2 : Int) * (M r0 5)))) X)))))))) :=
  (zblk 164 zc164 rfl [6, 8, 16, 53, 54, 62, 94, 102, 107, 130, 141, 155, 171, 179, 196, 204, 213] 215 155 _ _ _ _).trans rfl
-- yX12_falls
theorem q164_171 (r0 : Int) (x1 : Int) (x2 : Int) (d3 : zV) (M : zM) (X : zX) : zex 164 171 [] [(2, r0), (0, x1), (0, x2), d3] M X = zg (zkd X r0 = (18, 0)) (zg (zI ((M r0 54) + (1 : Int))) (zg (0 < (16 : Int)) (zg (zkd X r0 = (18, 0)) (zex 164 179 [] [(2, r0), (0, x1), (0, x2), d3] (zu M r0 54 (Int.tmod ((M r0 54) + (1 : Int)) (16 : Int))) X)))) :=
  (zblk 164 zc164 rfl [6, 8, 16, 53, 54, 62, 94, 102, 107, 130, 141, 155, 171, 179, 196, 204, 213] 215 171 _ _ _ _).trans rfl
-- yX12_falls
theorem q164_179 (r0 : Int) (x1 : Int) (x2 : Int) (d3 : zV) (M : zM) (X : zX) : zex 164 179 [] [(2, r0), (0, x1), (0, x2), d3] M X = zex 164 204 [] [(2, r0), (0, x1), (0, x2), d3] M X :=
  (zblk 164 zc164 rfl [6, 8, 16, 53, 54, 62, 94, 102, 107, 130, 141, 155, 171, 179, 196, 204, 213] 215 179 _ _ _ _).trans rfl
-- yX12_falls
theorem q164_196 (r0 : Int) (x1 : Int) (x2 : Int) (d3 : zV) (M : zM) (X : zX) : zex 164 196 [] [(2, r0), (0, x1), (0, x2), d3] M X = zg (zkd X r0 = (18, 0)) (zg (zI ((M r0 54) + (15 : Int))) (zg (0 < (16 : Int)) (zg (zkd X r0 = (18, 0)) (zex 164 204 [] [(2, r0), (0, x1), (0, x2), d3] (zu M r0 54 (Int.tmod ((M r0 54) + (15 : Int)) (16 : Int))) X)))) :=
  (zblk 164 zc164 rfl [6, 8, 16, 53, 54, 62, 94, 102, 107, 130, 141, 155, 171, 179, 196, 204, 213] 215 196 _ _ _ _).trans rfl
-- yX12_falls
theorem q164_204 (r0 : Int) (x1 : Int) (x2 : Int) (d3 : zV) (M : zM) (X : zX) : zex 164 204 [] [(2, r0), (0, x1), (0, x2), d3] M X = zg (zkd X r0 = (18, 0)) (zg (zkd X r0 = (18, 0) ∧ 0 < (M r0 51)) (zg ((zkd X (M r0 51)).1 = 0 ∧ 0 ≤ (2 : Int) ∧ (2 : Int) < ((zkd X (M r0 51)).2 : Int)) (zg (zI ((M r0 56) + (M (M r0 51) (2 : Int)))) (zg (zkd X r0 = (18, 0)) (zex 164 213 [] [(2, r0), (0, x1), (0, x2), d3] (zu M r0 56 ((M r0 56) + (M (M r0 51) (2 : Int)))) X))))) :=
  (zblk 164 zc164 rfl [6, 8, 16, 53, 54, 62, 94, 102, 107, 130, 141, 155, 171, 179, 196, 204, 213] 215 204 _ _ _ _).trans rfl
-- yX12_falls
theorem q164_213 (r0 : Int) (x1 : Int) (x2 : Int) (d3 : zV) (M : zM) (X : zX) : zex 164 213 [] [(2, r0), (0, x1), (0, x2), d3] M X = some ((9, 0), M, X) :=
  (zblk 164 zc164 rfl [6, 8, 16, 53, 54, 62, 94, 102, 107, 130, 141, 155, 171, 179, 196, 204, 213] 215 213 _ _ _ _).trans rfl
-- yX12_slipsAt
theorem q165_0 (r0 : Int) (x1 : Int) (x2 : Int) (M : zM) (X : zX) : zex 165 0 [] [(2, r0), (0, x1), (0, x2)] M X = zg (zkd X r0 = (18, 0) ∧ 0 < (M r0 48)) (zg (zI (x2 + (1 : Int))) (zg ((zkd X (M r0 48)).1 = 0 ∧ 0 ≤ (x2 + (1 : Int)) ∧ (x2 + (1 : Int)) < ((zkd X (M r0 48)).2 : Int)) (zex 165 7 [] [(2, r0), (0, x1), (0, x2)] (zu M (M r0 48) (x2 + (1 : Int)) (2 : Int)) X))) :=
  (zblk 165 zc165 rfl [7, 17, 27, 34, 40] 42 0 _ _ _ _).trans rfl
-- yX12_slipsAt
theorem q165_7 (r0 : Int) (x1 : Int) (x2 : Int) (M : zM) (X : zX) : zex 165 7 [] [(2, r0), (0, x1), (0, x2)] M X = zg (zkd X r0 = (18, 0)) (if (20 : Int) ≤ (M r0 58) then zex 165 34 [] [(2, r0), (0, x1), (0, x2)] M X else zg (zkd X r0 = (18, 0) ∧ 0 < (M r0 34)) (zg (zkd X r0 = (18, 0)) (zg ((zkd X (M r0 34)).1 = 0 ∧ 0 ≤ (M r0 58) ∧ (M r0 58) < ((zkd X (M r0 34)).2 : Int)) (zex 165 17 [] [(2, r0), (0, x1), (0, x2)] (zu M (M r0 34) (M r0 58) x1) X)))) :=
  (zblk 165 zc165 rfl [7, 17, 27, 34, 40] 42 7 _ _ _ _).trans rfl
-- yX12_slipsAt
theorem q165_17 (r0 : Int) (x1 : Int) (x2 : Int) (M : zM) (X : zX) : zex 165 17 [] [(2, r0), (0, x1), (0, x2)] M X = zg (zkd X r0 = (18, 0) ∧ 0 < (M r0 35)) (zg (zkd X r0 = (18, 0)) (zg (zI ((40 : Int) * x1)) (zg (zI (x2 - ((40 : Int) * x1))) (zg ((zkd X (M r0 35)).1 = 0 ∧ 0 ≤ (M r0 58) ∧ (M r0 58) < ((zkd X (M r0 35)).2 : Int)) (zex 165 27 [] [(2, r0), (0, x1), (0, x2)] (zu M (M r0 35) (M r0 58) (x2 - ((40 : Int) * x1))) X))))) :=
  (zblk 165 zc165 rfl [7, 17, 27, 34, 40] 42 17 _ _ _ _).trans rfl
-- yX12_slipsAt
theorem q165_27 (r0 : Int) (x1 : Int) (x2 : Int) (M : zM) (X : zX) : zex 165 27 [] [(2, r0), (0, x1), (0, x2)] M X = zg (zkd X r0 = (18, 0) ∧ 0 < (M r0 36)) (zg (zkd X r0 = (18, 0)) (zg (zkd X r0 = (18, 0)) (zg ((zkd X (M r0 36)).1 = 0 ∧ 0 ≤ (M r0 58) ∧ (M r0 58) < ((zkd X (M r0 36)).2 : Int)) (zex 165 34 [] [(2, r0), (0, x1), (0, x2)] (zu M (M r0 36) (M r0 58) (M r0 57)) X)))) :=
  (zblk 165 zc165 rfl [7, 17, 27, 34, 40] 42 27 _ _ _ _).trans rfl
-- yX12_slipsAt
theorem q165_34 (r0 : Int) (x1 : Int) (x2 : Int) (M : zM) (X : zX) : zex 165 34 [] [(2, r0), (0, x1), (0, x2)] M X = zg (zkd X r0 = (18, 0)) (zg (zI ((M r0 58) + (1 : Int))) (zg (zkd X r0 = (18, 0)) (zex 165 40 [] [(2, r0), (0, x1), (0, x2)] (zu M r0 58 ((M r0 58) + (1 : Int))) X))) :=
  (zblk 165 zc165 rfl [7, 17, 27, 34, 40] 42 34 _ _ _ _).trans rfl
-- yX12_slipsAt
theorem q165_40 (r0 : Int) (x1 : Int) (x2 : Int) (M : zM) (X : zX) : zex 165 40 [] [(2, r0), (0, x1), (0, x2)] M X = some ((9, 0), M, X) :=
  (zblk 165 zc165 rfl [7, 17, 27, 34, 40] 42 40 _ _ _ _).trans rfl
-- yX12_cellOf
theorem q166_0 (x0 : Int) (d1 : zV) (M : zM) (X : zX) : zex 166 0 [] [(0, x0), d1] M X = zg (0 < (1000 : Int)) (zg (zI ((Int.tdiv x0 (1000 : Int)) * (1000 : Int))) (if ((Int.tdiv x0 (1000 : Int)) * (1000 : Int)) ≤ x0 then zex 166 14 [(0, (Int.tdiv x0 (1000 : Int)))] [(0, x0), (0, (Int.tdiv x0 (1000 : Int)))] M X else zg (zI ((Int.tdiv x0 (1000 : Int)) - (1 : Int))) (zex 166 14 [(0, ((Int.tdiv x0 (1000 : Int)) - (1 : Int)))] [(0, x0), (0, (Int.tdiv x0 (1000 : Int)))] M X))) :=
  (zblk 166 zc166 rfl [14] 16 0 _ _ _ _).trans rfl
-- yX12_cellOf
theorem q166_14 (s0 : Int) (x0 : Int) (x1 : Int) (M : zM) (X : zX) : zex 166 14 [(0, s0)] [(0, x0), (0, x1)] M X = some ((0, s0), M, X) :=
  (zblk 166 zc166 rfl [14] 16 14 _ _ _ _).trans rfl
-- yX12_isBad
theorem q167_0 (r0 : Int) (d1 : zV) (d2 : zV) (M : zM) (X : zX) : zex 167 0 [] [(2, r0), d1, d2] M X = zg (zkd X r0 = (18, 0)) (zbI (zex 166 0 [] [(0, (M r0 52)), (9, 0)] M X) (fun v1 M1 X1 => zg (zkd X1 r0 = (18, 0)) (zbI (zex 166 0 [] [(0, (M1 r0 53)), (9, 0)] M1 X1) (fun v2 M2 X2 => zbI (zex 153 0 [] [(0, v1), (0, v2)] M2 X2) (fun v3 M3 X3 => if v3 = 0 then zex 167 21 [] [(2, r0), (0, v1), (0, v2)] M3 X3 else zg (zkd X3 r0 = (18, 0) ∧ 0 < (M3 r0 9)) (zg (zI ((32 : Int) * v2)) (zg (zI (((32 : Int) * v2) + v1)) (zg ((zkd X3 (M3 r0 9)).1 = 2 ∧ 0 ≤ (((32 : Int) * v2) + v1) ∧ (((32 : Int) * v2) + v1) < ((zkd X3 (M3 r0 9)).2 : Int)) (if (M3 (M3 r0 9) (((32 : Int) * v2) + v1)) = 0 then zex 167 24 [(0, (0 : Int))] [(2, r0), (0, v1), (0, v2)] M3 X3 else zex 167 21 [] [(2, r0), (0, v1), (0, v2)] M3 X3))))))))) :=
  (zblk 167 zc167 rfl [21, 24] 26 0 _ _ _ _).trans rfl
-- yX12_isBad
theorem q167_21 (r0 : Int) (x1 : Int) (x2 : Int) (M : zM) (X : zX) : zex 167 21 [] [(2, r0), (0, x1), (0, x2)] M X = zex 167 24 [(0, (1 : Int))] [(2, r0), (0, x1), (0, x2)] M X :=
  (zblk 167 zc167 rfl [21, 24] 26 21 _ _ _ _).trans rfl
-- yX12_isBad
theorem q167_24 (s0 : Int) (r0 : Int) (x1 : Int) (x2 : Int) (M : zM) (X : zX) : zex 167 24 [(0, s0)] [(2, r0), (0, x1), (0, x2)] M X = zg (s0 = 0 ∨ s0 = 1) (some ((0, s0), M, X)) :=
  (zblk 167 zc167 rfl [21, 24] 26 24 _ _ _ _).trans rfl
-- yX12_notes
theorem q168_0 (r0 : Int) (d1 : zV) (M : zM) (X : zX) : zex 168 0 [] [(2, r0), d1] M X = zg (zkd X r0 = (18, 0) ∧ 0 < (M r0 51)) (zg ((zkd X (M r0 51)).1 = 0 ∧ 0 ≤ (2 : Int) ∧ (2 : Int) < ((zkd X (M r0 51)).2 : Int)) (if (M (M r0 51) (2 : Int)) = 0 then zex 168 11 [(0, (-1 : Int))] [(2, r0), d1] M X else zg (zkd X r0 = (18, 0)) (zg (zkd X r0 = (18, 0)) (zbI (zex 151 0 [] [(2, r0), (0, (M r0 56)), (9, 0)] M X) (fun v1 M1 X1 => zex 168 11 [(0, v1)] [(2, r0), d1] M1 X1))))) :=
  (zblk 168 zc168 rfl [11, 28, 35, 43, 51, 57] 59 0 _ _ _ _).trans rfl
-- yX12_notes
theorem q168_11 (s0 : Int) (r0 : Int) (d1 : zV) (M : zM) (X : zX) : zex 168 11 [(0, s0)] [(2, r0), d1] M X = if s0 = (-1 : Int) then zex 168 57 [] [(2, r0), (0, s0)] M X else zg (zkd X r0 = (18, 0)) (if (60 : Int) ≤ (M r0 28) then zex 168 57 [] [(2, r0), (0, s0)] M X else zg (zkd X r0 = (18, 0) ∧ 0 < (M r0 29)) (zg (zkd X r0 = (18, 0)) (zg (zkd X r0 = (18, 0) ∧ 0 < (M r0 8)) (zg ((zkd X (M r0 8)).1 = 0 ∧ 0 ≤ s0 ∧ s0 < ((zkd X (M r0 8)).2 : Int)) (zg ((zkd X (M r0 29)).1 = 0 ∧ 0 ≤ (M r0 28) ∧ (M r0 28) < ((zkd X (M r0 29)).2 : Int)) (zex 168 28 [] [(2, r0), (0, s0)] (zu M (M r0 29) (M r0 28) (M (M r0 8) s0)) X)))))) :=
  (zblk 168 zc168 rfl [11, 28, 35, 43, 51, 57] 59 11 _ _ _ _).trans rfl
-- yX12_notes
theorem q168_28 (r0 : Int) (x1 : Int) (M : zM) (X : zX) : zex 168 28 [] [(2, r0), (0, x1)] M X = zg (zkd X r0 = (18, 0) ∧ 0 < (M r0 30)) (zg (zkd X r0 = (18, 0)) (zg (zkd X r0 = (18, 0)) (zg ((zkd X (M r0 30)).1 = 0 ∧ 0 ≤ (M r0 28) ∧ (M r0 28) < ((zkd X (M r0 30)).2 : Int)) (zex 168 35 [] [(2, r0), (0, x1)] (zu M (M r0 30) (M r0 28) (M r0 57)) X)))) :=
  (zblk 168 zc168 rfl [11, 28, 35, 43, 51, 57] 59 28 _ _ _ _).trans rfl
-- yX12_notes
theorem q168_35 (r0 : Int) (x1 : Int) (M : zM) (X : zX) : zex 168 35 [] [(2, r0), (0, x1)] M X = zg (zkd X r0 = (18, 0) ∧ 0 < (M r0 31)) (zg (zkd X r0 = (18, 0)) (zg (zkd X r0 = (18, 0)) (zbI (zex 166 0 [] [(0, (M r0 52)), (9, 0)] M X) (fun v1 M1 X1 => zg ((zkd X1 (M r0 31)).1 = 0 ∧ 0 ≤ (M r0 28) ∧ (M r0 28) < ((zkd X1 (M r0 31)).2 : Int)) (zex 168 43 [] [(2, r0), (0, x1)] (zu M1 (M r0 31) (M r0 28) v1) X1))))) :=
  (zblk 168 zc168 rfl [11, 28, 35, 43, 51, 57] 59 35 _ _ _ _).trans rfl
-- yX12_notes
theorem q168_43 (r0 : Int) (x1 : Int) (M : zM) (X : zX) : zex 168 43 [] [(2, r0), (0, x1)] M X = zg (zkd X r0 = (18, 0) ∧ 0 < (M r0 32)) (zg (zkd X r0 = (18, 0)) (zg (zkd X r0 = (18, 0)) (zbI (zex 166 0 [] [(0, (M r0 53)), (9, 0)] M X) (fun v1 M1 X1 => zg ((zkd X1 (M r0 32)).1 = 0 ∧ 0 ≤ (M r0 28) ∧ (M r0 28) < ((zkd X1 (M r0 32)).2 : Int)) (zex 168 51 [] [(2, r0), (0, x1)] (zu M1 (M r0 32) (M r0 28) v1) X1))))) :=
  (zblk 168 zc168 rfl [11, 28, 35, 43, 51, 57] 59 43 _ _ _ _).trans rfl
-- yX12_notes
theorem q168_51 (r0 : Int) (x1 : Int) (M : zM) (X : zX) : zex 168 51 [] [(2, r0), (0, x1)] M X = zg (zkd X r0 = (18, 0)) (zg (zI ((M r0 28) + (1 : Int))) (zg (zkd X r0 = (18, 0)) (zex 168 57 [] [(2, r0), (0, x1)] (zu M r0 28 ((M r0 28) + (1 : Int))) X))) :=
  (zblk 168 zc168 rfl [11, 28, 35, 43, 51, 57] 59 51 _ _ _ _).trans rfl
-- yX12_notes
theorem q168_57 (r0 : Int) (x1 : Int) (M : zM) (X : zX) : zex 168 57 [] [(2, r0), (0, x1)] M X = some ((9, 0), M, X) :=
  (zblk 168 zc168 rfl [11, 28, 35, 43, 51, 57] 59 57 _ _ _ _).trans rfl
-- yX12_show
theorem q169_0 (r0 : Int) (d1 : zV) (d2 : zV) (d3 : zV) (d4 : zV) (M : zM) (X : zX) : zex 169 0 [] [(2, r0), d1, d2, d3, d4] M X = zg (zkd X r0 = (18, 0)) (zbI (zex 160 0 [] [(2, r0), (9, 0), (9, 0), (9, 0)] M X) (fun v1 M1 X1 => if v1 ≤ 0 then zg (zkd X1 r0 = (18, 0)) (zbN (zex 161 0 [] [(2, r0), (9, 0)] M1 X1) (fun M2 X2 => zg (zkd X2 r0 = (18, 0)) (zex 169 10 [] [(2, r0), d1, d2, d3, d4] (zu M2 r0 28 (0 : Int)) X2))) else some ((0, (-3 : Int)), M1, X1))) :=
  (zblk 169 zc169 rfl [10, 13, 17, 38, 54, 64, 68, 70, 73, 79, 85, 91, 97, 103, 108, 114, 120, 125, 134, 135] 139 0 _ _ _ _).trans rfl
-- yX12_show
theorem q169_10 (r0 : Int) (d1 : zV) (d2 : zV) (d3 : zV) (d4 : zV) (M : zM) (X : zX) : zex 169 10 [] [(2, r0), d1, d2, d3, d4] M X = zg (zkd X r0 = (18, 0)) (zex 169 13 [] [(2, r0), d1, d2, d3, d4] (zu M r0 58 (0 : Int)) X) :=
  (zblk 169 zc169 rfl [10, 13, 17, 38, 54, 64, 68, 70, 73, 79, 85, 91, 97, 103, 108, 114, 120, 125, 134, 135] 139 10 _ _ _ _).trans rfl
-- yX12_show
theorem q169_13 (r0 : Int) (d1 : zV) (d2 : zV) (d3 : zV) (d4 : zV) (M : zM) (X : zX) : zex 169 13 [] [(2, r0), d1, d2, d3, d4] M X = zex 169 17 [] [(2, r0), (0, (0 : Int)), (0, (0 : Int)), d3, d4] M X :=
  (zblk 169 zc169 rfl [10, 13, 17, 38, 54, 64, 68, 70, 73, 79, 85, 91, 97, 103, 108, 114, 120, 125, 134, 135] 139 13 _ _ _ _).trans rfl
-- yX12_show
theorem q169_17 (r0 : Int) (x1 : Int) (x2 : Int) (d3 : zV) (d4 : zV) (M : zM) (X : zX) : zex 169 17 [] [(2, r0), (0, x1), (0, x2), d3, d4] M X = zg (zkd X r0 = (18, 0)) (zg (zkd X r0 = (18, 0)) (if (M r0 16) ≤ (M r0 57) then zex 169 70 [] [(2, r0), (0, x1), (0, x2), d3, d4] M X else zg (zkd X r0 = (18, 0)) (zbI (zex 162 0 [] [(2, r0)] M X) (fun v1 M1 X1 => if v1 = 0 then if (9999 : Int) ≤ x1 then zex 169 70 [] [(2, r0), (0, x1), (0, x2), d3, d4] M1 X1 else zg (zkd X1 r0 = (18, 0) ∧ 0 < (M1 r0 14)) (zg (zkd X1 r0 = (18, 0)) (zg (0 < (M1 r0 13)) (zg ((zkd X1 (M1 r0 14)).1 = 0 ∧ 0 ≤ (Int.tmod x1 (M1 r0 13)) ∧ (Int.tmod x1 (M1 r0 13)) < ((zkd X1 (M1 r0 14)).2 : Int)) (zex 169 38 [] [(2, r0), (0, x1), (0, x2), (0, (M1 (M1 r0 14) (Int.tmod x1 (M1 r0 13)))), (0, (0 : Int))] M1 X1)))) else zex 169 70 [] [(2, r0), (0, x1), (0, x2), d3, d4] M1 X1)))) :=
  (zblk 169 zc169 rfl [10, 13, 17, 38, 54, 64, 68, 70, 73, 79, 85, 91, 97, 103, 108, 114, 120, 125, 134, 135] 139 17 _ _ _ _).trans rfl
-- yX12_show
theorem q169_38 (r0 : Int) (x1 : Int) (x2 : Int) (x3 : Int) (x4 : Int) (M : zM) (X : zX) : zex 169 38 [] [(2, r0), (0, x1), (0, x2), (0, x3), (0, x4)] M X = if x3 ≤ x4 then zex 169 68 [] [(2, r0), (0, x1), (0, x2), (0, x3), (0, x4)] M X else zg (zkd X r0 = (18, 0)) (zg (zkd X r0 = (18, 0)) (if (M r0 16) ≤ (M r0 57) then zex 169 68 [] [(2, r0), (0, x1), (0, x2), (0, x3), (0, x4)] M X else zg (zkd X r0 = (18, 0)) (if x3 ≤ (M r0 15) then zex 169 54 [(0, (0 : Int)), (2, r0)] [(2, r0), (0, x1), (0, x2), (0, x3), (0, x4)] M X else zex 169 54 [(0, (1 : Int)), (2, r0)] [(2, r0), (0, x1), (0, x2), (0, x3), (0, x4)] M X))) :=
  (zblk 169 zc169 rfl [10, 13, 17, 38, 54, 64, 68, 70, 73, 79, 85, 91, 97, 103, 108, 114, 120, 125, 134, 135] 139 38 _ _ _ _).trans rfl
-- yX12_show
theorem q169_54 (s0 : Int) (s1 : Int) (r0 : Int) (x1 : Int) (x2 : Int) (x3 : Int) (x4 : Int) (M : zM) (X : zX) : zex 169 54 [(0, s1), (2, s0)] [(2, r0), (0, x1), (0, x2), (0, x3), (0, x4)] M X = zg (zkd X s0 = (18, 0)) (zbN (zex 164 0 [] [(2, s0), (0, s1), (9, 0), (9, 0)] M X) (fun M1 X1 => zg (zkd X1 r0 = (18, 0)) (zbN (zex 168 0 [] [(2, r0), (9, 0)] M1 X1) (fun M2 X2 => zg (zkd X2 r0 = (18, 0)) (zbI (zex 167 0 [] [(2, r0), (9, 0), (9, 0)] M2 X2) (fun v3 M3 X3 => if v3 = 0 then zex 169 64 [(0, (0 : Int)), (0, x2)] [(2, r0), (0, x1), (0, x2), (0, x3), (0, x4)] M3 X3 else zex 169 64 [(0, (1 : Int)), (0, x2)] [(2, r0), (0, x1), (0, x2), (0, x3), (0, x4)] M3 X3)))))) :=
  (zblk 169 zc169 rfl [10, 13, 17, 38, 54, 64, 68, 70, 73, 79, 85, 91, 97, 103, 108, 114, 120, 125, 134, 135] 139 54 _ _ _ _).trans rfl
-- yX12_show
theorem q169_64 (s0 : Int) (s1 : Int) (r0 : Int) (x1 : Int) (x2 : Int) (x3 : Int) (x4 : Int) (M : zM) (X : zX) : zex 169 64 [(0, s1), (0, s0)] [(2, r0), (0, x1), (0, x2), (0, x3), (0, x4)] M X = zg (zI (s0 + s1)) (zg (zI (x4 + (1 : Int))) (zex 169 38 [] [(2, r0), (0, x1), (0, (s0 + s1)), (0, x3), (0, (x4 + (1 : Int)))] M X)) :=
  (zblk 169 zc169 rfl [10, 13, 17, 38, 54, 64, 68, 70, 73, 79, 85, 91, 97, 103, 108, 114, 120, 125, 134, 135] 139 64 _ _ _ _).trans rfl
-- yX12_show
theorem q169_68 (r0 : Int) (x1 : Int) (x2 : Int) (x3 : Int) (x4 : Int) (M : zM) (X : zX) : zex 169 68 [] [(2, r0), (0, x1), (0, x2), (0, x3), (0, x4)] M X = zg (zI (x1 + (1 : Int))) (zex 169 17 [] [(2, r0), (0, (x1 + (1 : Int))), (0, x2), (0, x3), (0, x4)] M X) :=
  (zblk 169 zc169 rfl [10, 13, 17, 38, 54, 64, 68, 70, 73, 79, 85, 91, 97, 103, 108, 114, 120, 125, 134, 135] 139 68 _ _ _ _).trans rfl
-- yX12_show
theorem q169_70 (r0 : Int) (x1 : Int) (x2 : Int) (d3 : zV) (d4 : zV) (M : zM) (X : zX) : zex 169 70 [] [(2, r0), (0, x1), (0, x2), d3, d4] M X = zg (zkd X r0 = (18, 0) ∧ ((1 : Int) = 0 ∨ (1 : Int) = 1)) (zex 169 73 [] [(2, r0), (0, x1), (0, x2), d3, d4] (zu M r0 26 (1 : Int)) X) :=
  (zblk 169 zc169 rfl [10, 13, 17, 38, 54, 64, 68, 70, 73, 79, 85, 91, 97, 103, 108, 114, 120, 125, 134, 135] 139 70 _ _ _ _).trans rfl
-- yX12_show
theorem q169_73 (r0 : Int) (x1 : Int) (x2 : Int) (d3 : zV) (d4 : zV) (M : zM) (X : zX) : zex 169 73 [] [(2, r0), (0, x1), (0, x2), d3, d4] M X = zg (zkd X r0 = (18, 0) ∧ 0 < (M r0 27)) (zg (zkd X r0 = (18, 0)) (zg ((zkd X (M r0 27)).1 = 0 ∧ 0 ≤ (0 : Int) ∧ (0 : Int) < ((zkd X (M r0 27)).2 : Int)) (zex 169 79 [] [(2, r0), (0, x1), (0, x2), d3, d4] (zu M (M r0 27) (0 : Int) (M r0 52)) X))) :=
  (zblk 169 zc169 rfl [10, 13, 17, 38, 54, 64, 68, 70, 73, 79, 85, 91, 97, 103, 108, 114, 120, 125, 134, 135] 139 73 _ _ _ _).trans rfl
-- yX12_show
theorem q169_79 (r0 : Int) (x1 : Int) (x2 : Int) (d3 : zV) (d4 : zV) (M : zM) (X : zX) : zex 169 79 [] [(2, r0), (0, x1), (0, x2), d3, d4] M X = zg (zkd X r0 = (18, 0) ∧ 0 < (M r0 27)) (zg (zkd X r0 = (18, 0)) (zg ((zkd X (M r0 27)).1 = 0 ∧ 0 ≤ (1 : Int) ∧ (1 : Int) < ((zkd X (M r0 27)).2 : Int)) (zex 169 85 [] [(2, r0), (0, x1), (0, x2), d3, d4] (zu M (M r0 27) (1 : Int) (M r0 53)) X))) :=
  (zblk 169 zc169 rfl [10, 13, 17, 38, 54, 64, 68, 70, 73, 79, 85, 91, 97, 103, 108, 114, 120, 125, 134, 135] 139 79 _ _ _ _).trans rfl
-- yX12_show
theorem q169_85 (r0 : Int) (x1 : Int) (x2 : Int) (d3 : zV) (d4 : zV) (M : zM) (X : zX) : zex 169 85 [] [(2, r0), (0, x1), (0, x2), d3, d4] M X = zg (zkd X r0 = (18, 0) ∧ 0 < (M r0 27)) (zg (zkd X r0 = (18, 0)) (zg ((zkd X (M r0 27)).1 = 0 ∧ 0 ≤ (2 : Int) ∧ (2 : Int) < ((zkd X (M r0 27)).2 : Int)) (zex 169 91 [] [(2, r0), (0, x1), (0, x2), d3, d4] (zu M (M r0 27) (2 : Int) (M r0 54)) X))) :=
  (zblk 169 zc169 rfl [10, 13, 17, 38, 54, 64, 68, 70, 73, 79, 85, 91, 97, 103, 108, 114, 120, 125, 134, 135] 139 85 _ _ _ _).trans rfl
-- yX12_show
theorem q169_91 (r0 : Int) (x1 : Int) (x2 : Int) (d3 : zV) (d4 : zV) (M : zM) (X : zX) : zex 169 91 [] [(2, r0), (0, x1), (0, x2), d3, d4] M X = zg (zkd X r0 = (18, 0) ∧ 0 < (M r0 27)) (zg (zkd X r0 = (18, 0)) (zg ((zkd X (M r0 27)).1 = 0 ∧ 0 ≤ (3 : Int) ∧ (3 : Int) < ((zkd X (M r0 27)).2 : Int)) (zex 169 97 [] [(2, r0), (0, x1), (0, x2), d3, d4] (zu M (M r0 27) (3 : Int) (M r0 55)) X))) :=
  (zblk 169 zc169 rfl [10, 13, 17, 38, 54, 64, 68, 70, 73, 79, 85, 91, 97, 103, 108, 114, 120, 125, 134, 135] 139 91 _ _ _ _).trans rfl
-- yX12_show
theorem q169_97 (r0 : Int) (x1 : Int) (x2 : Int) (d3 : zV) (d4 : zV) (M : zM) (X : zX) : zex 169 97 [] [(2, r0), (0, x1), (0, x2), d3, d4] M X = zg (zkd X r0 = (18, 0) ∧ 0 < (M r0 27)) (zg (zkd X r0 = (18, 0)) (zg ((zkd X (M r0 27)).1 = 0 ∧ 0 ≤ (4 : Int) ∧ (4 : Int) < ((zkd X (M r0 27)).2 : Int)) (zex 169 103 [] [(2, r0), (0, x1), (0, x2), d3, d4] (zu M (M r0 27) (4 : Int) (M r0 56)) X))) :=
  (zblk 169 zc169 rfl [10, 13, 17, 38, 54, 64, 68, 70, 73, 79, 85, 91, 97, 103, 108, 114, 120, 125, 134, 135] 139 97 _ _ _ _).trans rfl
-- yX12_show
theorem q169_103 (r0 : Int) (x1 : Int) (x2 : Int) (d3 : zV) (d4 : zV) (M : zM) (X : zX) : zex 169 103 [] [(2, r0), (0, x1), (0, x2), d3, d4] M X = zg (zkd X r0 = (18, 0) ∧ 0 < (M r0 27)) (zg ((zkd X (M r0 27)).1 = 0 ∧ 0 ≤ (5 : Int) ∧ (5 : Int) < ((zkd X (M r0 27)).2 : Int)) (zex 169 108 [] [(2, r0), (0, x1), (0, x2), d3, d4] (zu M (M r0 27) (5 : Int) x1) X)) :=
  (zblk 169 zc169 rfl [10, 13, 17, 38, 54, 64, 68, 70, 73, 79, 85, 91, 97, 103, 108, 114, 120, 125, 134, 135] 139 103 _ _ _ _).trans rfl
-- yX12_show
theorem q169_108 (r0 : Int) (x1 : Int) (x2 : Int) (d3 : zV) (d4 : zV) (M : zM) (X : zX) : zex 169 108 [] [(2, r0), (0, x1), (0, x2), d3, d4] M X = zg (zkd X r0 = (18, 0) ∧ 0 < (M r0 27)) (zg (zkd X r0 = (18, 0)) (zg ((zkd X (M r0 27)).1 = 0 ∧ 0 ≤ (6 : Int) ∧ (6 : Int) < ((zkd X (M r0 27)).2 : Int)) (zex 169 114 [] [(2, r0), (0, x1), (0, x2), d3, d4] (zu M (M r0 27) (6 : Int) (M r0 28)) X))) :=
  (zblk 169 zc169 rfl [10, 13, 17, 38, 54, 64, 68, 70, 73, 79, 85, 91, 97, 103, 108, 114, 120, 125, 134, 135] 139 108 _ _ _ _).trans rfl
-- yX12_show
theorem q169_114 (r0 : Int) (x1 : Int) (x2 : Int) (d3 : zV) (d4 : zV) (M : zM) (X : zX) : zex 169 114 [] [(2, r0), (0, x1), (0, x2), d3, d4] M X = zg (zkd X r0 = (18, 0) ∧ 0 < (M r0 27)) (zg (zkd X r0 = (18, 0)) (zg ((zkd X (M r0 27)).1 = 0 ∧ 0 ≤ (7 : Int) ∧ (7 : Int) < ((zkd X (M r0 27)).2 : Int)) (zex 169 120 [] [(2, r0), (0, x1), (0, x2), d3, d4] (zu M (M r0 27) (7 : Int) (M r0 58)) X))) :=
  (zblk 169 zc169 rfl [10, 13, 17, 38, 54, 64, 68, 70, 73, 79, 85, 91, 97, 103, 108, 114, 120, 125, 134, 135] 139 114 _ _ _ _).trans rfl
-- yX12_show
theorem q169_120 (r0 : Int) (x1 : Int) (x2 : Int) (d3 : zV) (d4 : zV) (M : zM) (X : zX) : zex 169 120 [] [(2, r0), (0, x1), (0, x2), d3, d4] M X = zg (zkd X r0 = (18, 0) ∧ 0 < (M r0 27)) (zg ((zkd X (M r0 27)).1 = 0 ∧ 0 ≤ (8 : Int) ∧ (8 : Int) < ((zkd X (M r0 27)).2 : Int)) (zex 169 125 [] [(2, r0), (0, x1), (0, x2), d3, d4] (zu M (M r0 27) (8 : Int) x2) X)) :=
  (zblk 169 zc169 rfl [10, 13, 17, 38, 54, 64, 68, 70, 73, 79, 85, 91, 97, 103, 108, 114, 120, 125, 134, 135] 139 120 _ _ _ _).trans rfl
-- yX12_show
theorem q169_125 (r0 : Int) (x1 : Int) (x2 : Int) (d3 : zV) (d4 : zV) (M : zM) (X : zX) : zex 169 125 [] [(2, r0), (0, x1), (0, x2), d3, d4] M X = zg (zkd X r0 = (18, 0)) (if (20 : Int) ≤ (M r0 58) then zex 169 134 [(0, (20 : Int)), (2, r0)] [(2, r0), (0, x1), (0, x2), d3, d4] M X else zg (zkd X r0 = (18, 0)) (zex 169 134 [(0, (M r0 58)), (2, r0)] [(2, r0), (0, x1), (0, x2), d3, d4] M X)) :=
  (zblk 169 zc169 rfl [10, 13, 17, 38, 54, 64, 68, 70, 73, 79, 85, 91, 97, 103, 108, 114, 120, 125, 134, 135] 139 125 _ _ _ _).trans rfl
-- yX12_show
theorem q169_134 (s0 : Int) (s1 : Int) (r0 : Int) (x1 : Int) (x2 : Int) (d3 : zV) (d4 : zV) (M : zM) (X : zX) : zex 169 134 [(0, s1), (2, s0)] [(2, r0), (0, x1), (0, x2), d3, d4] M X = zg (zkd X s0 = (18, 0)) (zex 169 135 [] [(2, r0), (0, x1), (0, x2), d3, d4] (zu M s0 33 s1) X) :=
  (zblk 169 zc169 rfl [10, 13, 17, 38, 54, 64, 68, 70, 73, 79, 85, 91, 97, 103, 108, 114, 120, 125, 134, 135] 139 134 _ _ _ _).trans rfl
-- yX12_show
theorem q169_135 (r0 : Int) (x1 : Int) (x2 : Int) (d3 : zV) (d4 : zV) (M : zM) (X : zX) : zex 169 135 [] [(2, r0), (0, x1), (0, x2), d3, d4] M X = zg (zkd X r0 = (18, 0)) (some ((0, (M r0 57)), M, X)) :=
  (zblk 169 zc169 rfl [10, 13, 17, 38, 54, 64, 68, 70, 73, 79, 85, 91, 97, 103, 108, 114, 120, 125, 134, 135] 139 135 _ _ _ _).trans rfl
-- yX12_pose
theorem q170_0 (r0 : Int) (x1 : Int) (M : zM) (X : zX) : zex 170 0 [] [(2, r0), (0, x1)] M X = zbI (zex 143 0 [] [(0, x1), (0, (0 : Int)), (0, (8 : Int))] M X) (fun v1 M1 X1 => if v1 = 0 then zex 170 14 [(0, (1 : Int)), (2, r0)] [(2, r0), (0, x1)] M1 X1 else zg (zkd X1 r0 = (18, 0)) (if (M1 r0 26) = 0 then zex 170 14 [(0, (2 : Int)), (2, r0)] [(2, r0), (0, x1)] M1 X1 else zex 170 14 [(0, (0 : Int)), (2, r0)] [(2, r0), (0, x1)] M1 X1)) :=
  (zblk 170 zc170 rfl [14, 24] 26 0 _ _ _ _).trans rfl
-- yX12_pose
theorem q170_14 (s0 : Int) (s1 : Int) (r0 : Int) (x1 : Int) (M : zM) (X : zX) : zex 170 14 [(0, s1), (2, s0)] [(2, r0), (0, x1)] M X = zg (zkd X s0 = (18, 0)) (zg (zkd X r0 = (18, 0)) (if ((zu M s0 0 s1) r0 0) = 0 then zg (zkd X r0 = (18, 0) ∧ 0 < ((zu M s0 0 s1) r0 27)) (zg ((zkd X ((zu M s0 0 s1) r0 27)).1 = 0 ∧ 0 ≤ x1 ∧ x1 < ((zkd X ((zu M s0 0 s1) r0 27)).2 : Int)) (zex 170 24 [(0, ((zu M s0 0 s1) ((zu M s0 0 s1) r0 27) x1))] [(2, r0), (0, x1)] (zu M s0 0 s1) X)) else zex 170 24 [(0, (0 : Int))] [(2, r0), (0, x1)] (zu M s0 0 s1) X)) :=
  (zblk 170 zc170 rfl [14, 24] 26 14 _ _ _ _).trans rfl
-- yX12_pose
theorem q170_24 (s0 : Int) (r0 : Int) (x1 : Int) (M : zM) (X : zX) : zex 170 24 [(0, s0)] [(2, r0), (0, x1)] M X = some ((0, s0), M, X) :=
  (zblk 170 zc170 rfl [14, 24] 26 24 _ _ _ _).trans rfl
-- yX12_acted
theorem q171_0 (r0 : Int) (x1 : Int) (x2 : Int) (M : zM) (X : zX) : zex 171 0 [] [(2, r0), (0, x1), (0, x2)] M X = zbI (zex 143 0 [] [(0, x2), (0, (0 : Int)), (0, (3 : Int))] M X) (fun v1 M1 X1 => if v1 = 0 then zex 171 22 [(0, (1 : Int)), (2, r0)] [(2, r0), (0, x1), (0, x2)] M1 X1 else zg (zkd X1 r0 = (18, 0)) (if (M1 r0 26) = 0 then zex 171 19 [(2, r0)] [(2, r0), (0, x1), (0, x2)] M1 X1 else zg (zkd X1 r0 = (18, 0)) (zg (zI ((M1 r0 28) - (1 : Int))) (zbI (zex 143 0 [] [(0, x1), (0, (0 : Int)), (0, ((M1 r0 28) - (1 : Int)))] M1 X1) (fun v2 M2 X2 => if v2 = 0 then zex 171 19 [(2, r0)] [(2, r0), (0, x1), (0, x2)] M2 X2 else zex 171 22 [(0, (0 : Int)), (2, r0)] [(2, r0), (0, x1), (0, x2)] M2 X2))))) :=
  (zblk 171 zc171 rfl [19, 22, 55] 57 0 _ _ _ _).trans rfl
-- yX12_acted
theorem q171_19 (s0 : Int) (r0 : Int) (x1 : Int) (x2 : Int) (M : zM) (X : zX) : zex 171 19 [(2, s0)] [(2, r0), (0, x1), (0, x2)] M X = zex 171 22 [(0, (2 : Int)), (2, s0)] [(2, r0), (0, x1), (0, x2)] M X :=
  (zblk 171 zc171 rfl [19, 22, 55] 57 19 _ _ _ _).trans rfl
-- yX12_acted
set_option maxRecDepth 20000 in
theorem q171_22 (s0 : Int) (s1 : Int) (r0 : Int) (x1 : Int) (x2 : Int) (M : zM) (X : zX) : zex 171 22 [(0, s1), (2, s0)] [(2, r0), (0, x1), (0, x2)] M X = zg (zkd X s0 = (18, 0)) (zg (zkd X r0 = (18, 0)) (if ((zu M s0 0 s1) r0 0) = 0 then if x2 = 0 then zg (zkd X r0 = (18, 0) ∧ 0 < ((zu M s0 0 s1) r0 29)) (zg ((zkd X ((zu M s0 0 s1) r0 29)).1 = 0 ∧ 0 ≤ x1 ∧ x1 < ((zkd X ((zu M s0 0 s1) r0 29)).2 : Int)) (zex 171 55 [(0, ((zu M s0 0 s1) ((zu M s0 0 s1) r0 29) x1))] [(2, r0), (0, x1), (0, x2)] (zu M s0 0 s1) X)) else if x2 = (1 : Int) then zg (zkd X r0 = (18, 0) ∧ 0 < ((zu M s0 0 s1) r0 30)) (zg ((zkd X ((zu M s0 0 s1) r0 30)).1 = 0 ∧ 0 ≤ x1 ∧ x1 < ((zkd X ((zu M s0 0 s1) r0 30)).2 : Int)) (zex 171 55 [(0, ((zu M s0 0 s1) ((zu M s0 0 s1) r0 30) x1))] [(2, r0), (0, x1), (0, x2)] (zu M s0 0 s1) X)) else if x2 = (2 : Int) then zg (zkd X r0 = (18, 0) ∧ 0 < ((zu M s0 0 s1) r0 31)) (zg ((zkd X ((zu M s0 0 s1) r0 31)).1 = 0 ∧ 0 ≤ x1 ∧ x1 < ((zkd X ((zu M s0 0 s1) r0 31)).2 : Int)) (zex 171 55 [(0, ((zu M s0 0 s1) ((zu M s0 0 s1) r0 31) x1))] [(2, r0), (0, x1), (0, x2)] (zu M s0 0 s1) X)) else zg (zkd X r0 = (18, 0) ∧ 0 < ((zu M s0 0 s1) r0 32)) (zg ((zkd X ((zu M s0 0 s1) r0 32)).1 = 0 ∧ 0 ≤ x1 ∧ x1 < ((zkd X ((zu M s0 0 s1) r0 32)).2 : Int)) (zex 171 55 [(0, ((zu M s0 0 s1) ((zu M s0 0 s1) r0 32) x1))] [(2, r0), (0, x1), (0, x2)] (zu M s0 0 s1) X)) else some ((0, (0 : Int)), (zu M s0 0 s1), X))) :=
  (zblk 171 zc171 rfl [19, 22, 55] 57 22 _ _ _ _).trans rfl
-- yX12_acted
theorem q171_55 (s0 : Int) (r0 : Int) (x1 : Int) (x2 : Int) (M : zM) (X : zX) : zex 171 55 [(0, s0)] [(2, r0), (0, x1), (0, x2)] M X = some ((0, s0), M, X) :=
  (zblk 171 zc171 rfl [19, 22, 55] 57 55 _ _ _ _).trans rfl
-- yX12_slipped
set_option maxRecDepth 20000 in
theorem q172_0 (r0 : Int) (x1 : Int) (x2 : Int) (M : zM) (X : zX) : zex 172 0 [] [(2, r0), (0, x1), (0, x2)] M X = zg (zkd X r0 = (18, 0)) (if (M r0 26) = 0 then zex 172 11 [] [(2, r0), (0, x1), (0, x2)] M X else zg (zkd X r0 = (18, 0)) (zg (zI ((M r0 33) - (1 : Int))) (zbI (zex 143 0 [] [(0, x1), (0, (0 : Int)), (0, ((M r0 33) - (1 : Int)))] M X) (fun v1 M1 X1 => if v1 = 0 then zex 172 11 [] [(2, r0), (0, x1), (0, x2)] M1 X1 else if x2 = 0 then zg (zkd X1 r0 = (18, 0) ∧ 0 < (M1 r0 34)) (zg ((zkd X1 (M1 r0 34)).1 = 0 ∧ 0 ≤ x1 ∧ x1 < ((zkd X1 (M1 r0 34)).2 : Int)) (zex 172 37 [(0, (M1 (M1 r0 34) x1))] [(2, r0), (0, x1), (0, x2)] M1 X1)) else if x2 = (1 : Int) then zg (zkd X1 r0 = (18, 0) ∧ 0 < (M1 r0 35)) (zg ((zkd X1 (M1 r0 35)).1 = 0 ∧ 0 ≤ x1 ∧ x1 < ((zkd X1 (M1 r0 35)).2 : Int)) (zex 172 37 [(0, (M1 (M1 r0 35) x1))] [(2, r0), (0, x1), (0, x2)] M1 X1)) else if x2 = (2 : Int) then zg (zkd X1 r0 = (18, 0) ∧ 0 < (M1 r0 36)) (zg ((zkd X1 (M1 r0 36)).1 = 0 ∧ 0 ≤ x1 ∧ x1 < ((zkd X1 (M1 r0 36)).2 : Int)) (zex 172 37 [(0, (M1 (M1 r0 36) x1))] [(2, r0), (0, x1), (0, x2)] M1 X1)) else zex 172 37 [(0, (-1 : Int))] [(2, r0), (0, x1), (0, x2)] M1 X1)))) :=
  (zblk 172 zc172 rfl [11, 37] 39 0 _ _ _ _).trans rfl
-- yX12_slipped
theorem q172_11 (r0 : Int) (x1 : Int) (x2 : Int) (M : zM) (X : zX) : zex 172 11 [] [(2, r0), (0, x1), (0, x2)] M X = some ((0, (-1 : Int)), M, X) :=
  (zblk 172 zc172 rfl [11, 37] 39 11 _ _ _ _).trans rfl
-- yX12_slipped
theorem q172_37 (s0 : Int) (r0 : Int) (x1 : Int) (x2 : Int) (M : zM) (X : zX) : zex 172 37 [(0, s0)] [(2, r0), (0, x1), (0, x2)] M X = some ((0, s0), M, X) :=
  (zblk 172 zc172 rfl [11, 37] 39 37 _ _ _ _).trans rfl
-- yX12_goes
theorem q173_0 (r0 : Int) (x1 : Int) (M : zM) (X : zX) : zex 173 0 [] [(2, r0), (0, x1)] M X = zg (zkd X r0 = (18, 0)) (if x1 ≤ (M r0 57) then zex 173 16 [] [(2, r0), (0, x1)] M X else zg (zkd X r0 = (18, 0)) (zg (zkd X r0 = (18, 0)) (if (M r0 16) ≤ (M r0 57) then zex 173 16 [] [(2, r0), (0, x1)] M X else zg (zkd X r0 = (18, 0)) (zbI (zex 162 0 [] [(2, r0)] M X) (fun v1 M1 X1 => if v1 = 0 then zg (zkd X1 r0 = (18, 0)) (zbN (zex 164 0 [] [(2, r0), (0, (0 : Int)), (9, 0), (9, 0)] M1 X1) (fun M2 X2 => zex 173 0 [] [(2, r0), (0, x1)] M2 X2)) else zex 173 16 [] [(2, r0), (0, x1)] M1 X1))))) :=
  (zblk 173 zc173 rfl [0, 16] 18 0 _ _ _ _).trans rfl
-- yX12_goes
theorem q173_16 (r0 : Int) (x1 : Int) (M : zM) (X : zX) : zex 173 16 [] [(2, r0), (0, x1)] M X = some ((9, 0), M, X) :=
  (zblk 173 zc173 rfl [0, 16] 18 16 _ _ _ _).trans rfl
-- yX12_where
theorem q174_0 (r0 : Int) (x1 : Int) (x2 : Int) (d3 : zV) (M : zM) (X : zX) : zex 174 0 [] [(2, r0), (0, x1), (0, x2), d3] M X = zbI (zex 143 0 [] [(0, x2), (0, (0 : Int)), (0, (4 : Int))] M X) (fun v1 M1 X1 => if v1 = 0 then zex 174 12 [] [(2, r0), (0, x1), (0, x2), d3] M1 X1 else zbI (zex 143 0 [] [(0, x1), (0, (0 : Int)), (0, (4000 : Int))] M1 X1) (fun v2 M2 X2 => if v2 = 0 then zex 174 12 [] [(2, r0), (0, x1), (0, x2), d3] M2 X2 else zex 174 13 [(0, (1 : Int))] [(2, r0), (0, x1), (0, x2), d3] M2 X2)) :=
  (zblk 174 zc174 rfl [12, 13, 25, 61] 63 0 _ _ _ _).trans rfl
-- yX12_where
theorem q174_12 (r0 : Int) (x1 : Int) (x2 : Int) (d3 : zV) (M : zM) (X : zX) : zex 174 12 [] [(2, r0), (0, x1), (0, x2), d3] M X = zex 174 13 [(0, (0 : Int))] [(2, r0), (0, x1), (0, x2), d3] M X :=
  (zblk 174 zc174 rfl [12, 13, 25, 61] 63 12 _ _ _ _).trans rfl
-- yX12_where
theorem q174_13 (s0 : Int) (r0 : Int) (x1 : Int) (x2 : Int) (d3 : zV) (M : zM) (X : zX) : zex 174 13 [(0, s0)] [(2, r0), (0, x1), (0, x2), d3] M X = if s0 = 0 then zex 174 25 [(0, (1 : Int)), (2, r0)] [(2, r0), (0, x1), (0, x2), (0, s0)] M X else zg (zkd X r0 = (18, 0)) (zbI (zex 160 0 [] [(2, r0), (9, 0), (9, 0), (9, 0)] M X) (fun v1 M1 X1 => if v1 ≤ 0 then zex 174 25 [(0, (0 : Int)), (2, r0)] [(2, r0), (0, x1), (0, x2), (0, s0)] M1 X1 else zex 174 25 [(0, (2 : Int)), (2, r0)] [(2, r0), (0, x1), (0, x2), (0, s0)] M1 X1)) :=
  (zblk 174 zc174 rfl [12, 13, 25, 61] 63 13 _ _ _ _).trans rfl
-- yX12_where
theorem q174_25 (s0 : Int) (s1 : Int) (r0 : Int) (x1 : Int) (x2 : Int) (x3 : Int) (M : zM) (X : zX) : zex 174 25 [(0, s1), (2, s0)] [(2, r0), (0, x1), (0, x2), (0, x3)] M X = zg (zkd X s0 = (18, 0)) (zg (zkd X r0 = (18, 0)) (if ((zu M s0 0 s1) r0 0) = 0 then zg (zkd X r0 = (18, 0)) (zbN (zex 161 0 [] [(2, r0), (9, 0)] (zu M s0 0 s1) X) (fun M1 X1 => zg (zkd X1 r0 = (18, 0)) (zbN (zex 173 0 [] [(2, r0), (0, x1)] M1 X1) (fun M2 X2 => if x2 = 0 then zg (zkd X2 r0 = (18, 0)) (zex 174 61 [(0, (M2 r0 52))] [(2, r0), (0, x1), (0, x2), (0, x3)] M2 X2) else if x2 = (1 : Int) then zg (zkd X2 r0 = (18, 0)) (zex 174 61 [(0, (M2 r0 53))] [(2, r0), (0, x1), (0, x2), (0, x3)] M2 X2) else if x2 = (2 : Int) then zg (zkd X2 r0 = (18, 0)) (zex 174 61 [(0, (M2 r0 54))] [(2, r0), (0, x1), (0, x2), (0, x3)] M2 X2) else if x2 = (3 : Int) then zg (zkd X2 r0 = (18, 0)) (zex 174 61 [(0, (M2 r0 55))] [(2, r0), (0, x1), (0, x2), (0, x3)] M2 X2) else zg (zkd X2 r0 = (18, 0)) (zex 174 61 [(0, (M2 r0 56))] [(2, r0), (0, x1), (0, x2), (0, x3)] M2 X2))))) else some ((0, (0 : Int)), (zu M s0 0 s1), X))) :=
  (zblk 174 zc174 rfl [12, 13, 25, 61] 63 25 _ _ _ _).trans rfl
-- yX12_where
theorem q174_61 (s0 : Int) (r0 : Int) (x1 : Int) (x2 : Int) (x3 : Int) (M : zM) (X : zX) : zex 174 61 [(0, s0)] [(2, r0), (0, x1), (0, x2), (0, x3)] M X = some ((0, s0), M, X) :=
  (zblk 174 zc174 rfl [12, 13, 25, 61] 63 61 _ _ _ _).trans rfl
-- yX12_wish
theorem q175_0 (r0 : Int) (x1 : Int) (x2 : Int) (x3 : Int) (d4 : zV) (M : zM) (X : zX) : zex 175 0 [] [(2, r0), (0, x1), (0, x2), (0, x3), d4] M X = if x1 = 0 then zbI (zex 153 0 [] [(0, x2), (0, x3)] M X) (fun v4 M4 X4 => zex 175 30 [(0, v4)] [(2, r0), (0, x1), (0, x2), (0, x3), d4] M4 X4) else if x3 = 0 then zbI (zex 143 0 [] [(0, x1), (0, (1 : Int)), (0, (2 : Int))] M X) (fun v1 M1 X1 => if v1 = 0 then if x1 = (3 : Int) then zbI (zex 143 0 [] [(0, x2), (0, (0 : Int)), (0, (3 : Int))] M1 X1) (fun v2 M2 X2 => if v2 = 0 then zex 175 29 [] [(2, r0), (0, x1), (0, x2), (0, x3), d4] M2 X2 else zex 175 27 [] [(2, r0), (0, x1), (0, x2), (0, x3), d4] M2 X2) else zex 175 29 [] [(2, r0), (0, x1), (0, x2), (0, x3), d4] M1 X1 else zbI (zex 143 0 [] [(0, x2), (0, (1 : Int)), (0, (99 : Int))] M1 X1) (fun v3 M3 X3 => if v3 = 0 then zex 175 29 [] [(2, r0), (0, x1), (0, x2), (0, x3), d4] M3 X3 else zex 175 27 [] [(2, r0), (0, x1), (0, x2), (0, x3), d4] M3 X3)) else zex 175 29 [] [(2, r0), (0, x1), (0, x2), (0, x3), d4] M X :=
  (zblk 175 zc175 rfl [27, 29, 30, 47, 53, 59, 65] 69 0 _ _ _ _).trans rfl
-- yX12_wish
theorem q175_27 (r0 : Int) (x1 : Int) (x2 : Int) (x3 : Int) (d4 : zV) (M : zM) (X : zX) : zex 175 27 [] [(2, r0), (0, x1), (0, x2), (0, x3), d4] M X = zex 175 30 [(0, (1 : Int))] [(2, r0), (0, x1), (0, x2), (0, x3), d4] M X :=
  (zblk 175 zc175 rfl [27, 29, 30, 47, 53, 59, 65] 69 27 _ _ _ _).trans rfl
-- yX12_wish
theorem q175_29 (r0 : Int) (x1 : Int) (x2 : Int) (x3 : Int) (d4 : zV) (M : zM) (X : zX) : zex 175 29 [] [(2, r0), (0, x1), (0, x2), (0, x3), d4] M X = zex 175 30 [(0, (0 : Int))] [(2, r0), (0, x1), (0, x2), (0, x3), d4] M X :=
  (zblk 175 zc175 rfl [27, 29, 30, 47, 53, 59, 65] 69 29 _ _ _ _).trans rfl
-- yX12_wish
theorem q175_30 (s0 : Int) (r0 : Int) (x1 : Int) (x2 : Int) (x3 : Int) (d4 : zV) (M : zM) (X : zX) : zex 175 30 [(0, s0)] [(2, r0), (0, x1), (0, x2), (0, x3), d4] M X = if s0 = 0 then some ((0, (-1 : Int)), M, X) else zg (zkd X r0 = (18, 0)) (if (M r0 17) = (20 : Int) then some ((0, (-2 : Int)), M, X) else zg (zkd X r0 = (18, 0) ∧ 0 < (M r0 18)) (zg (zkd X r0 = (18, 0)) (zg ((zkd X (M r0 18)).1 = 0 ∧ 0 ≤ (M r0 17) ∧ (M r0 17) < ((zkd X (M r0 18)).2 : Int)) (zex 175 47 [] [(2, r0), (0, x1), (0, x2), (0, x3), (0, s0)] (zu M (M r0 18) (M r0 17) x1) X)))) :=
  (zblk 175 zc175 rfl [27, 29, 30, 47, 53, 59, 65] 69 30 _ _ _ _).trans rfl
-- yX12_wish
theorem q175_47 (r0 : Int) (x1 : Int) (x2 : Int) (x3 : Int) (x4 : Int) (M : zM) (X : zX) : zex 175 47 [] [(2, r0), (0, x1), (0, x2), (0, x3), (0, x4)] M X = zg (zkd X r0 = (18, 0) ∧ 0 < (M r0 19)) (zg (zkd X r0 = (18, 0)) (zg ((zkd X (M r0 19)).1 = 0 ∧ 0 ≤ (M r0 17) ∧ (M r0 17) < ((zkd X (M r0 19)).2 : Int)) (zex 175 53 [] [(2, r0), (0, x1), (0, x2), (0, x3), (0, x4)] (zu M (M r0 19) (M r0 17) x2) X))) :=
  (zblk 175 zc175 rfl [27, 29, 30, 47, 53, 59, 65] 69 47 _ _ _ _).trans rfl
-- yX12_wish
theorem q175_53 (r0 : Int) (x1 : Int) (x2 : Int) (x3 : Int) (x4 : Int) (M : zM) (X : zX) : zex 175 53 [] [(2, r0), (0, x1), (0, x2), (0, x3), (0, x4)] M X = zg (zkd X r0 = (18, 0) ∧ 0 < (M r0 20)) (zg (zkd X r0 = (18, 0)) (zg ((zkd X (M r0 20)).1 = 0 ∧ 0 ≤ (M r0 17) ∧ (M r0 17) < ((zkd X (M r0 20)).2 : Int)) (zex 175 59 [] [(2, r0), (0, x1), (0, x2), (0, x3), (0, x4)] (zu M (M r0 20) (M r0 17) x3) X))) :=
  (zblk 175 zc175 rfl [27, 29, 30, 47, 53, 59, 65] 69 53 _ _ _ _).trans rfl
-- yX12_wish
theorem q175_59 (r0 : Int) (x1 : Int) (x2 : Int) (x3 : Int) (x4 : Int) (M : zM) (X : zX) : zex 175 59 [] [(2, r0), (0, x1), (0, x2), (0, x3), (0, x4)] M X = zg (zkd X r0 = (18, 0)) (zg (zI ((M r0 17) + (1 : Int))) (zg (zkd X r0 = (18, 0)) (zex 175 65 [] [(2, r0), (0, x1), (0, x2), (0, x3), (0, x4)] (zu M r0 17 ((M r0 17) + (1 : Int))) X))) :=
  (zblk 175 zc175 rfl [27, 29, 30, 47, 53, 59, 65] 69 59 _ _ _ _).trans rfl
-- yX12_wish
theorem q175_65 (r0 : Int) (x1 : Int) (x2 : Int) (x3 : Int) (x4 : Int) (M : zM) (X : zX) : zex 175 65 [] [(2, r0), (0, x1), (0, x2), (0, x3), (0, x4)] M X = zg (zkd X r0 = (18, 0)) (some ((0, (M r0 17)), M, X)) :=
  (zblk 175 zc175 rfl [27, 29, 30, 47, 53, 59, 65] 69 65 _ _ _ _).trans rfl
-- yX12_wishless
theorem q176_0 (r0 : Int) (d1 : zV) (M : zM) (X : zX) : zex 176 0 [] [(2, r0), d1] M X = zg (zkd X r0 = (18, 0)) (zg (zkd X r0 = (18, 0)) (some ((0, (M r0 17)), (zu M r0 17 (0 : Int)), X))) :=
  (zblk 176 zc176 rfl [] 9 0 _ _ _ _).trans rfl
-- yX12_aheadX
theorem q177_0 (x0 : Int) (M : zM) (X : zX) : zex 177 0 [] [(0, x0)] M X = if x0 = 0 then zex 177 10 [(0, (1 : Int))] [(0, x0)] M X else if x0 = (2 : Int) then zex 177 10 [(0, (-1 : Int))] [(0, x0)] M X else zex 177 10 [(0, (0 : Int))] [(0, x0)] M X :=
  (zblk 177 zc177 rfl [10] 12 0 _ _ _ _).trans rfl
-- yX12_aheadX
theorem q177_10 (s0 : Int) (x0 : Int) (M : zM) (X : zX) : zex 177 10 [(0, s0)] [(0, x0)] M X = some ((0, s0), M, X) :=
  (zblk 177 zc177 rfl [10] 12 10 _ _ _ _).trans rfl
-- yX12_aheadY
theorem q178_0 (x0 : Int) (M : zM) (X : zX) : zex 178 0 [] [(0, x0)] M X = if x0 = (1 : Int) then zex 178 11 [(0, (1 : Int))] [(0, x0)] M X else if x0 = (3 : Int) then zex 178 11 [(0, (-1 : Int))] [(0, x0)] M X else zex 178 11 [(0, (0 : Int))] [(0, x0)] M X :=
  (zblk 178 zc178 rfl [11] 13 0 _ _ _ _).trans rfl
-- yX12_aheadY
theorem q178_11 (s0 : Int) (x0 : Int) (M : zM) (X : zX) : zex 178 11 [(0, s0)] [(0, x0)] M X = some ((0, s0), M, X) :=
  (zblk 178 zc178 rfl [11] 13 11 _ _ _ _).trans rfl
-- yX12_isFree
theorem q179_0 (r0 : Int) (x1 : Int) (x2 : Int) (M : zM) (X : zX) : zex 179 0 [] [(2, r0), (0, x1), (0, x2)] M X = zbI (zex 153 0 [] [(0, x1), (0, x2)] M X) (fun v1 M1 X1 => if v1 = 0 then zex 179 15 [] [(2, r0), (0, x1), (0, x2)] M1 X1 else zg (zkd X1 r0 = (18, 0) ∧ 0 < (M1 r0 9)) (zg (zI ((32 : Int) * x2)) (zg (zI (((32 : Int) * x2) + x1)) (zg ((zkd X1 (M1 r0 9)).1 = 2 ∧ 0 ≤ (((32 : Int) * x2) + x1) ∧ (((32 : Int) * x2) + x1) < ((zkd X1 (M1 r0 9)).2 : Int)) (if (M1 (M1 r0 9) (((32 : Int) * x2) + x1)) = 0 then zex 179 16 [(0, (1 : Int))] [(2, r0), (0, x1), (0, x2)] M1 X1 else zex 179 15 [] [(2, r0), (0, x1), (0, x2)] M1 X1))))) :=
  (zblk 179 zc179 rfl [15, 16] 18 0 _ _ _ _).trans rfl
-- yX12_isFree
theorem q179_15 (r0 : Int) (x1 : Int) (x2 : Int) (M : zM) (X : zX) : zex 179 15 [] [(2, r0), (0, x1), (0, x2)] M X = zex 179 16 [(0, (0 : Int))] [(2, r0), (0, x1), (0, x2)] M X :=
  (zblk 179 zc179 rfl [15, 16] 18 15 _ _ _ _).trans rfl
-- yX12_isFree
theorem q179_16 (s0 : Int) (r0 : Int) (x1 : Int) (x2 : Int) (M : zM) (X : zX) : zex 179 16 [(0, s0)] [(2, r0), (0, x1), (0, x2)] M X = zg (s0 = 0 ∨ s0 = 1) (some ((0, s0), M, X)) :=
  (zblk 179 zc179 rfl [15, 16] 18 16 _ _ _ _).trans rfl
-- yX12_moved
set_option maxRecDepth 20000 in
theorem q180_0 (r0 : Int) (x1 : Int) (x2 : Int) (d3 : zV) (d4 : zV) (d5 : zV) (d6 : zV) (d7 : zV) (d8 : zV) (M : zM) (X : zX) : zex 180 0 [] [(2, r0), (0, x1), (0, x2), d3, d4, d5, d6, d7, d8] M X = zg (0 < (4 : Int)) (zg (0 < (4 : Int)) (zg (0 < (32 : Int)) (zg (0 < (4 : Int)) (zg (0 < (32 : Int)) (if x2 ≤ (1 : Int) then if x2 = 0 then zex 180 39 [(0, (1 : Int))] [(2, r0), (0, x1), (0, x2), (0, (Int.tmod x1 (4 : Int))), (0, (Int.tmod (Int.tdiv x1 (4 : Int)) (32 : Int))), (0, (Int.tdiv (Int.tdiv x1 (4 : Int)) (32 : Int))), d6, d7, d8] M X else zex 180 39 [(0, (-1 : Int))] [(2, r0), (0, x1), (0, x2), (0, (Int.tmod x1 (4 : Int))), (0, (Int.tmod (Int.tdiv x1 (4 : Int)) (32 : Int))), (0, (Int.tdiv (Int.tdiv x1 (4 : Int)) (32 : Int))), d6, d7, d8] M X else zg (zI (x1 - (Int.tmod x1 (4 : Int)))) (if x2 = (2 : Int) then zex 180 29 [(0, (1 : Int)), (0, (Int.tmod x1 (4 : Int))), (0, (x1 - (Int.tmod x1 (4 : Int))))] [(2, r0), (0, x1), (0, x2), (0, (Int.tmod x1 (4 : Int))), (0, (Int.tmod (Int.tdiv x1 (4 : Int)) (32 : Int))), (0, (Int.tdiv (Int.tdiv x1 (4 : Int)) (32 : Int))), d6, d7, d8] M X else zex 180 29 [(0, (3 : Int)), (0, (Int.tmod x1 (4 : Int))), (0, (x1 - (Int.tmod x1 (4 : Int))))] [(2, r0), (0, x1), (0, x2), (0, (Int.tmod x1 (4 : Int))), (0, (Int.tmod (Int.tdiv x1 (4 : Int)) (32 : Int))), (0, (Int.tdiv (Int.tdiv x1 (4 : Int)) (32 : Int))), d6, d7, d8] M X)))))) :=
  (zblk 180 zc180 rfl [29, 39, 70] 72 0 _ _ _ _).trans rfl
-- yX12_moved
theorem q180_29 (s0 : Int) (s1 : Int) (s2 : Int) (r0 : Int) (x1 : Int) (x2 : Int) (x3 : Int) (x4 : Int) (x5 : Int) (d6 : zV) (d7 : zV) (d8 : zV) (M : zM) (X : zX) : zex 180 29 [(0, s2), (0, s1), (0, s0)] [(2, r0), (0, x1), (0, x2), (0, x3), (0, x4), (0, x5), d6, d7, d8] M X = zg (zI (s1 + s2)) (zg (0 < (4 : Int)) (zg (zI (s0 + (Int.tmod (s1 + s2) (4 : Int)))) (some ((0, (s0 + (Int.tmod (s1 + s2) (4 : Int)))), M, X)))) :=
  (zblk 180 zc180 rfl [29, 39, 70] 72 29 _ _ _ _).trans rfl
-- yX12_moved
theorem q180_39 (s0 : Int) (r0 : Int) (x1 : Int) (x2 : Int) (x3 : Int) (x4 : Int) (x5 : Int) (d6 : zV) (d7 : zV) (d8 : zV) (M : zM) (X : zX) : zex 180 39 [(0, s0)] [(2, r0), (0, x1), (0, x2), (0, x3), (0, x4), (0, x5), d6, d7, d8] M X = zbI (zex 177 0 [] [(0, x3)] M X) (fun v1 M1 X1 => zg (zI (s0 * v1)) (zg (zI (x4 + (s0 * v1))) (zbI (zex 178 0 [] [(0, x3)] M1 X1) (fun v2 M2 X2 => zg (zI (s0 * v2)) (zg (zI (x5 + (s0 * v2))) (zg (zkd X2 r0 = (18, 0)) (zbI (zex 179 0 [] [(2, r0), (0, (x4 + (s0 * v1))), (0, (x5 + (s0 * v2)))] M2 X2) (fun v3 M3 X3 => if v3 = 0 then zex 180 70 [(0, (-1 : Int))] [(2, r0), (0, x1), (0, x2), (0, x3), (0, x4), (0, x5), (0, s0), (0, (x4 + (s0 * v1))), (0, (x5 + (s0 * v2)))] M3 X3 else zg (zI ((32 : Int) * (x5 + (s0 * v2)))) (zg (zI (((32 : Int) * (x5 + (s0 * v2))) + (x4 + (s0 * v1)))) (zg (zI ((4 : Int) * (((32 : Int) * (x5 + (s0 * v2))) + (x4 + (s0 * v1))))) (zg (zI (((4 : Int) * (((32 : Int) * (x5 + (s0 * v2))) + (x4 + (s0 * v1)))) + x3)) (zex 180 70 [(0, (((4 : Int) * (((32 : Int) * (x5 + (s0 * v2))) + (x4 + (s0 * v1)))) + x3))] [(2, r0), (0, x1), (0, x2), (0, x3), (0, x4), (0, x5), (0, s0), (0, (x4 + (s0 * v1))), (0, (x5 + (s0 * v2)))] M3 X3)))))))))))) :=
  (zblk 180 zc180 rfl [29, 39, 70] 72 39 _ _ _ _).trans rfl
-- yX12_moved
theorem q180_70 (s0 : Int) (r0 : Int) (x1 : Int) (x2 : Int) (x3 : Int) (x4 : Int) (x5 : Int) (x6 : Int) (x7 : Int) (x8 : Int) (M : zM) (X : zX) : zex 180 70 [(0, s0)] [(2, r0), (0, x1), (0, x2), (0, x3), (0, x4), (0, x5), (0, x6), (0, x7), (0, x8)] M X = some ((0, s0), M, X) :=
  (zblk 180 zc180 rfl [29, 39, 70] 72 70 _ _ _ _).trans rfl
-- yX12_price
theorem q181_0 (r0 : Int) (x1 : Int) (M : zM) (X : zX) : zex 181 0 [] [(2, r0), (0, x1)] M X = if (2 : Int) ≤ x1 then zg (zkd X r0 = (18, 0)) (zg (zI ((4 : Int) * (M r0 5))) (zex 181 9 [(0, ((4 : Int) * (M r0 5)))] [(2, r0), (0, x1)] M X)) else zex 181 9 [(0, (1 : Int))] [(2, r0), (0, x1)] M X :=
  (zblk 181 zc181 rfl [9] 11 0 _ _ _ _).trans rfl
-- yX12_price
theorem q181_9 (s0 : Int) (r0 : Int) (x1 : Int) (M : zM) (X : zX) : zex 181 9 [(0, s0)] [(2, r0), (0, x1)] M X = some ((0, s0), M, X) :=
  (zblk 181 zc181 rfl [9] 11 9 _ _ _ _).trans rfl
-- yX12_reckons
theorem q182_0 (r0 : Int) (x1 : Int) (x2 : Int) (d3 : zV) (d4 : zV) (d5 : zV) (d6 : zV) (M : zM) (X : zX) : zex 182 0 [] [(2, r0), (0, x1), (0, x2), d3, d4, d5, d6] M X = zex 182 2 [] [(2, r0), (0, x1), (0, x2), (0, (0 : Int)), d4, d5, d6] M X :=
  (zblk 182 zc182 rfl [2, 24, 25, 30, 36, 49, 85, 99, 101] 106 0 _ _ _ _).trans rfl
-- yX12_reckons
theorem q182_2 (r0 : Int) (x1 : Int) (x2 : Int) (x3 : Int) (d4 : zV) (d5 : zV) (d6 : zV) (M : zM) (X : zX) : zex 182 2 [] [(2, r0), (0, x1), (0, x2), (0, x3), d4, d5, d6] M X = if (4096 : Int) ≤ x3 then zex 182 30 [] [(2, r0), (0, x1), (0, x2), (0, (1 : Int)), d4, d5, d6] M X else zg (zkd X r0 = (18, 0) ∧ 0 < (M r0 59)) (zg (zkd X r0 = (18, 0)) (zbI (zex 179 0 [] [(2, r0), (0, x1), (0, x2)] M X) (fun v1 M1 X1 => if v1 = 0 then zex 182 24 [(0, x3), (2, (M r0 59))] [(2, r0), (0, x1), (0, x2), (0, x3), d4, d5, d6] M1 X1 else zg (0 < (4 : Int)) (zg (zI ((32 : Int) * x2)) (zg (zI (((32 : Int) * x2) + x1)) (if (Int.tdiv x3 (4 : Int)) = (((32 : Int) * x2) + x1) then zex 182 25 [(0, (0 : Int)), (0, x3), (2, (M r0 59))] [(2, r0), (0, x1), (0, x2), (0, x3), d4, d5, d6] M1 X1 else zex 182 24 [(0, x3), (2, (M r0 59))] [(2, r0), (0, x1), (0, x2), (0, x3), d4, d5, d6] M1 X1)))))) :=
  (zblk 182 zc182 rfl [2, 24, 25, 30, 36, 49, 85, 99, 101] 106 2 _ _ _ _).trans rfl
-- yX12_reckons
theorem q182_24 (s0 : Int) (s1 : Int) (r0 : Int) (x1 : Int) (x2 : Int) (x3 : Int) (d4 : zV) (d5 : zV) (d6 : zV) (M : zM) (X : zX) : zex 182 24 [(0, s1), (2, s0)] [(2, r0), (0, x1), (0, x2), (0, x3), d4, d5, d6] M X = zex 182 25 [(0, (-1 : Int)), (0, s1), (2, s0)] [(2, r0), (0, x1), (0, x2), (0, x3), d4, d5, d6] M X :=
  (zblk 182 zc182 rfl [2, 24, 25, 30, 36, 49, 85, 99, 101] 106 24 _ _ _ _).trans rfl
-- yX12_reckons
theorem q182_25 (s0 : Int) (s1 : Int) (s2 : Int) (r0 : Int) (x1 : Int) (x2 : Int) (x3 : Int) (d4 : zV) (d5 : zV) (d6 : zV) (M : zM) (X : zX) : zex 182 25 [(0, s2), (0, s1), (2, s0)] [(2, r0), (0, x1), (0, x2), (0, x3), d4, d5, d6] M X = zg ((zkd X s0).1 = 0 ∧ 0 ≤ s1 ∧ s1 < ((zkd X s0).2 : Int)) (zg (zI (x3 + (1 : Int))) (zex 182 2 [] [(2, r0), (0, x1), (0, x2), (0, (x3 + (1 : Int))), d4, d5, d6] (zu M s0 s1 s2) X)) :=
  (zblk 182 zc182 rfl [2, 24, 25, 30, 36, 49, 85, 99, 101] 106 25 _ _ _ _).trans rfl
-- yX12_reckons
theorem q182_30 (r0 : Int) (x1 : Int) (x2 : Int) (x3 : Int) (d4 : zV) (d5 : zV) (d6 : zV) (M : zM) (X : zX) : zex 182 30 [] [(2, r0), (0, x1), (0, x2), (0, x3), d4, d5, d6] M X = if x3 = 0 then some ((9, 0), M, X) else zex 182 36 [] [(2, r0), (0, x1), (0, x2), (0, (0 : Int)), (0, (0 : Int)), d5, d6] M X :=
  (zblk 182 zc182 rfl [2, 24, 25, 30, 36, 49, 85, 99, 101] 106 30 _ _ _ _).trans rfl
-- yX12_reckons
theorem q182_36 (r0 : Int) (x1 : Int) (x2 : Int) (x3 : Int) (x4 : Int) (d5 : zV) (d6 : zV) (M : zM) (X : zX) : zex 182 36 [] [(2, r0), (0, x1), (0, x2), (0, x3), (0, x4), d5, d6] M X = if (4096 : Int) ≤ x4 then zex 182 30 [] [(2, r0), (0, x1), (0, x2), (0, x3), (0, x4), d5, d6] M X else zg (zkd X r0 = (18, 0) ∧ 0 < (M r0 9)) (zg (0 < (4 : Int)) (zg ((zkd X (M r0 9)).1 = 2 ∧ 0 ≤ (Int.tdiv x4 (4 : Int)) ∧ (Int.tdiv x4 (4 : Int)) < ((zkd X (M r0 9)).2 : Int)) (if (M (M r0 9) (Int.tdiv x4 (4 : Int))) = 0 then zex 182 49 [] [(2, r0), (0, x1), (0, x2), (0, x3), (0, x4), (0, (0 : Int)), d6] M X else zex 182 101 [] [(2, r0), (0, x1), (0, x2), (0, x3), (0, x4), d5, d6] M X))) :=
  (zblk 182 zc182 rfl [2, 24, 25, 30, 36, 49, 85, 99, 101] 106 36 _ _ _ _).trans rfl
-- yX12_reckons
set_option maxRecDepth 20000 in
theorem q182_49 (r0 : Int) (x1 : Int) (x2 : Int) (x3 : Int) (x4 : Int) (x5 : Int) (d6 : zV) (M : zM) (X : zX) : zex 182 49 [] [(2, r0), (0, x1), (0, x2), (0, x3), (0, x4), (0, x5), d6] M X = if (4 : Int) ≤ x5 then zex 182 101 [] [(2, r0), (0, x1), (0, x2), (0, x3), (0, x4), (0, x5), d6] M X else zg (zkd X r0 = (18, 0)) (zbI (zex 180 0 [] [(2, r0), (0, x4), (0, x5), (9, 0), (9, 0), (9, 0), (9, 0), (9, 0), (9, 0)] M X) (fun v1 M1 X1 => if v1 = (-1 : Int) then zex 182 99 [] [(2, r0), (0, x1), (0, x2), (0, x3), (0, x4), (0, x5), (0, v1)] M1 X1 else zg (zkd X1 r0 = (18, 0) ∧ 0 < (M1 r0 59)) (zg ((zkd X1 (M1 r0 59)).1 = 0 ∧ 0 ≤ v1 ∧ v1 < ((zkd X1 (M1 r0 59)).2 : Int)) (if (M1 (M1 r0 59) v1) = (-1 : Int) then zex 182 99 [] [(2, r0), (0, x1), (0, x2), (0, x3), (0, x4), (0, x5), (0, v1)] M1 X1 else zg (zkd X1 r0 = (18, 0) ∧ 0 < (M1 r0 59)) (zg ((zkd X1 (M1 r0 59)).1 = 0 ∧ 0 ≤ x4 ∧ x4 < ((zkd X1 (M1 r0 59)).2 : Int)) (if (M1 (M1 r0 59) x4) = (-1 : Int) then zex 182 85 [] [(2, r0), (0, x1), (0, x2), (0, x3), (0, x4), (0, x5), (0, v1)] M1 X1 else zg (zkd X1 r0 = (18, 0) ∧ 0 < (M1 r0 59)) (zg ((zkd X1 (M1 r0 59)).1 = 0 ∧ 0 ≤ v1 ∧ v1 < ((zkd X1 (M1 r0 59)).2 : Int)) (zg (zkd X1 r0 = (18, 0)) (zbI (zex 181 0 [] [(2, r0), (0, x5)] M1 X1) (fun v2 M2 X2 => zg (zI ((M1 (M1 r0 59) v1) + v2)) (zg (zkd X2 r0 = (18, 0) ∧ 0 < (M2 r0 59)) (zg ((zkd X2 (M2 r0 59)).1 = 0 ∧ 0 ≤ x4 ∧ x4 < ((zkd X2 (M2 r0 59)).2 : Int)) (if (M2 (M2 r0 59) x4) ≤ ((M1 (M1 r0 59) v1) + v2) then zex 182 99 [] [(2, r0), (0, x1), (0, x2), (0, x3), (0, x4), (0, x5), (0, v1)] M2 X2 else zex 182 85 [] [(2, r0), (0, x1), (0, x2), (0, x3), (0, x4), (0, x5), (0, v1)] M2 X2))))))))))))) :=
  (zblk 182 zc182 rfl [2, 24, 25, 30, 36, 49, 85, 99, 101] 106 49 _ _ _ _).trans rfl
-- yX12_reckons
theorem q182_85 (r0 : Int) (x1 : Int) (x2 : Int) (x3 : Int) (x4 : Int) (x5 : Int) (x6 : Int) (M : zM) (X : zX) : zex 182 85 [] [(2, r0), (0, x1), (0, x2), (0, x3), (0, x4), (0, x5), (0, x6)] M X = zg (zkd X r0 = (18, 0) ∧ 0 < (M r0 59)) (zg (zkd X r0 = (18, 0) ∧ 0 < (M r0 59)) (zg ((zkd X (M r0 59)).1 = 0 ∧ 0 ≤ x6 ∧ x6 < ((zkd X (M r0 59)).2 : Int)) (zg (zkd X r0 = (18, 0)) (zbI (zex 181 0 [] [(2, r0), (0, x5)] M X) (fun v1 M1 X1 => zg (zI ((M (M r0 59) x6) + v1)) (zg ((zkd X1 (M r0 59)).1 = 0 ∧ 0 ≤ x4 ∧ x4 < ((zkd X1 (M r0 59)).2 : Int)) (zex 182 99 [] [(2, r0), (0, x1), (0, x2), (0, (1 : Int)), (0, x4), (0, x5), (0, x6)] (zu M1 (M r0 59) x4 ((M (M r0 59) x6) + v1)) X1))))))) :=
  (zblk 182 zc182 rfl [2, 24, 25, 30, 36, 49, 85, 99, 101] 106 85 _ _ _ _).trans rfl
-- yX12_reckons
theorem q182_99 (r0 : Int) (x1 : Int) (x2 : Int) (x3 : Int) (x4 : Int) (x5 : Int) (x6 : Int) (M : zM) (X : zX) : zex 182 99 [] [(2, r0), (0, x1), (0, x2), (0, x3), (0, x4), (0, x5), (0, x6)] M X = zg (zI (x5 + (1 : Int))) (zex 182 49 [] [(2, r0), (0, x1), (0, x2), (0, x3), (0, x4), (0, (x5 + (1 : Int))), (0, x6)] M X) :=
  (zblk 182 zc182 rfl [2, 24, 25, 30, 36, 49, 85, 99, 101] 106 99 _ _ _ _).trans rfl
-- yX12_reckons
theorem q182_101 (r0 : Int) (x1 : Int) (x2 : Int) (x3 : Int) (x4 : Int) (d5 : zV) (d6 : zV) (M : zM) (X : zX) : zex 182 101 [] [(2, r0), (0, x1), (0, x2), (0, x3), (0, x4), d5, d6] M X = zg (zI (x4 + (1 : Int))) (zex 182 36 [] [(2, r0), (0, x1), (0, x2), (0, x3), (0, (x4 + (1 : Int))), d5, d6] M X) :=
  (zblk 182 zc182 rfl [2, 24, 25, 30, 36, 49, 85, 99, 101] 106 101 _ _ _ _).trans rfl
-- yX12_way
set_option maxRecDepth 20000 in
theorem q183_0 (r0 : Int) (x1 : Int) (x2 : Int) (x3 : Int) (x4 : Int) (x5 : Int) (d6 : zV) (M : zM) (X : zX) : zex 183 0 [] [(2, r0), (0, x1), (0, x2), (0, x3), (0, x4), (0, x5), d6] M X = zbI (zex 153 0 [] [(0, x1), (0, x2)] M X) (fun v1 M1 X1 => if v1 = 0 then zex 183 13 [] [(2, r0), (0, x1), (0, x2), (0, x3), (0, x4), (0, x5), d6] M1 X1 else zbI (zex 153 0 [] [(0, x4), (0, x5)] M1 X1) (fun v2 M2 X2 => if v2 = 0 then zex 183 13 [] [(2, r0), (0, x1), (0, x2), (0, x3), (0, x4), (0, x5), d6] M2 X2 else zbI (zex 143 0 [] [(0, x3), (0, (0 : Int)), (0, (3 : Int))] M2 X2) (fun v3 M3 X3 => if v3 = 0 then zex 183 13 [] [(2, r0), (0, x1), (0, x2), (0, x3), (0, x4), (0, x5), d6] M3 X3 else zg (zkd X3 r0 = (18, 0) ∧ 0 < (M3 r0 9)) (zg (zI ((32 : Int) * x2)) (zg (zI (((32 : Int) * x2) + x1)) (zg ((zkd X3 (M3 r0 9)).1 = 2 ∧ 0 ≤ (((32 : Int) * x2) + x1) ∧ (((32 : Int) * x2) + x1) < ((zkd X3 (M3 r0 9)).2 : Int)) (if (M3 (M3 r0 9) (((32 : Int) * x2) + x1)) = 0 then zg (zkd X3 r0 = (18, 0)) (zbN (zex 182 0 [] [(2, r0), (0, x4), (0, x5), (9, 0), (9, 0), (9, 0), (9, 0)] M3 X3) (fun M4 X4 => zg (zkd X4 r0 = (18, 0) ∧ 0 < (M4 r0 59)) (zg (zI ((32 : Int) * x2)) (zg (zI (((32 : Int) * x2) + x1)) (zg (zI ((4 : Int) * (((32 : Int) * x2) + x1))) (zg (zI (((4 : Int) * (((32 : Int) * x2) + x1)) + x3)) (zg ((zkd X4 (M4 r0 59)).1 = 0 ∧ 0 ≤ (((4 : Int) * (((32 : Int) * x2) + x1)) + x3) ∧ (((4 : Int) * (((32 : Int) * x2) + x1)) + x3) < ((zkd X4 (M4 r0 59)).2 : Int)) (if (M4 (M4 r0 59) (((4 : Int) * (((32 : Int) * x2) + x1)) + x3)) = (-1 : Int) then zex 183 49 [(0, (-5 : Int))] [(2, r0), (0, x1), (0, x2), (0, x3), (0, x4), (0, x5), (0, (M4 (M4 r0 59) (((4 : Int) * (((32 : Int) * x2) + x1)) + x3)))] M4 X4 else zex 183 49 [(0, (M4 (M4 r0 59) (((4 : Int) * (((32 : Int) * x2) + x1)) + x3)))] [(2, r0), (0, x1), (0, x2), (0, x3), (0, x4), (0, x5), (0, (M4 (M4 r0 59) (((4 : Int) * (((32 : Int) * x2) + x1)) + x3)))] M4 X4)))))))) else some ((0, (-4 : Int)), M3, X3)))))))) :=
  (zblk 183 zc183 rfl [13, 49] 51 0 _ _ _ _).trans rfl
-- yX12_way
theorem q183_13 (r0 : Int) (x1 : Int) (x2 : Int) (x3 : Int) (x4 : Int) (x5 : Int) (d6 : zV) (M : zM) (X : zX) : zex 183 13 [] [(2, r0), (0, x1), (0, x2), (0, x3), (0, x4), (0, x5), d6] M X = some ((0, (-1 : Int)), M, X) :=
  (zblk 183 zc183 rfl [13, 49] 51 13 _ _ _ _).trans rfl
-- yX12_way
theorem q183_49 (s0 : Int) (r0 : Int) (x1 : Int) (x2 : Int) (x3 : Int) (x4 : Int) (x5 : Int) (x6 : Int) (M : zM) (X : zX) : zex 183 49 [(0, s0)] [(2, r0), (0, x1), (0, x2), (0, x3), (0, x4), (0, x5), (0, x6)] M X = some ((0, s0), M, X) :=
  (zblk 183 zc183 rfl [13, 49] 51 49 _ _ _ _).trans rfl
-- yX12_winds
theorem q184_0 (r0 : Int) (x1 : Int) (x2 : Int) (x3 : Int) (d4 : zV) (d5 : zV) (d6 : zV) (d7 : zV) (M : zM) (X : zX) : zex 184 0 [] [(2, r0), (0, x1), (0, x2), (0, x3), d4, d5, d6, d7] M X = zex 184 2 [] [(2, r0), (0, x1), (0, x2), (0, x3), (0, x3), d5, d6, d7] M X :=
  (zblk 184 zc184 rfl [2, 37, 38, 50, 51, 60, 67, 75, 92, 101, 105, 106] 108 0 _ _ _ _).trans rfl
-- yX12_winds
set_option maxRecDepth 20000 in
theorem q184_2 (r0 : Int) (x1 : Int) (x2 : Int) (x3 : Int) (x4 : Int) (d5 : zV) (d6 : zV) (d7 : zV) (M : zM) (X : zX) : zex 184 2 [] [(2, r0), (0, x1), (0, x2), (0, x3), (0, x4), d5, d6, d7] M X = if x4 ≤ 0 then zex 184 106 [] [(2, r0), (0, x1), (0, x2), (0, x3), (0, x4), d5, d6, d7] M X else zg (zkd X r0 = (18, 0)) (if (M r0 63) = 0 then zg (zI ((40 : Int) * x1)) (zg (zkd X r0 = (18, 0) ∧ 0 < (M r0 60)) (zg ((zkd X (M r0 60)).1 = 0 ∧ 0 ≤ x1 ∧ x1 < ((zkd X (M r0 60)).2 : Int)) (zg (zI (((40 : Int) * x1) + (M (M r0 60) x1))) (zg (zI ((((40 : Int) * x1) + (M (M r0 60) x1)) - (1 : Int))) (zg (zkd X r0 = (18, 0) ∧ 0 < (M r0 60)) (zg ((zkd X (M r0 60)).1 = 0 ∧ 0 ≤ x1 ∧ x1 < ((zkd X (M r0 60)).2 : Int)) (if (M (M r0 60) x1) ≤ 0 then zex 184 37 [] [(2, r0), (0, x1), (0, x2), (0, x3), (0, x4), (0, ((((40 : Int) * x1) + (M (M r0 60) x1)) - (1 : Int))), d6, d7] M X else zg (zkd X r0 = (18, 0) ∧ 0 < (M r0 61)) (zg ((zkd X (M r0 61)).1 = 0 ∧ 0 ≤ ((((40 : Int) * x1) + (M (M r0 60) x1)) - (1 : Int)) ∧ ((((40 : Int) * x1) + (M (M r0 60) x1)) - (1 : Int)) < ((zkd X (M r0 61)).2 : Int)) (if (M (M r0 61) ((((40 : Int) * x1) + (M (M r0 60) x1)) - (1 : Int))) = x2 then zg (zkd X r0 = (18, 0) ∧ 0 < (M r0 62)) (zg ((zkd X (M r0 62)).1 = 0 ∧ 0 ≤ ((((40 : Int) * x1) + (M (M r0 60) x1)) - (1 : Int)) ∧ ((((40 : Int) * x1) + (M (M r0 60) x1)) - (1 : Int)) < ((zkd X (M r0 62)).2 : Int)) (if (200 : Int) ≤ (M (M r0 62) ((((40 : Int) * x1) + (M (M r0 60) x1)) - (1 : Int))) then zex 184 37 [] [(2, r0), (0, x1), (0, x2), (0, x3), (0, x4), (0, ((((40 : Int) * x1) + (M (M r0 60) x1)) - (1 : Int))), d6, d7] M X else zex 184 38 [(0, (1 : Int))] [(2, r0), (0, x1), (0, x2), (0, x3), (0, x4), (0, ((((40 : Int) * x1) + (M (M r0 60) x1)) - (1 : Int))), d6, d7] M X)) else zex 184 37 [] [(2, r0), (0, x1), (0, x2), (0, x3), (0, x4), (0, ((((40 : Int) * x1) + (M (M r0 60) x1)) - (1 : Int))), d6, d7] M X))))))))) else zex 184 106 [] [(2, r0), (0, x1), (0, x2), (0, x3), (0, x4), d5, d6, d7] M X) :=
  (zblk 184 zc184 rfl [2, 37, 38, 50, 51, 60, 67, 75, 92, 101, 105, 106] 108 2 _ _ _ _).trans rfl
-- yX12_winds
theorem q184_37 (r0 : Int) (x1 : Int) (x2 : Int) (x3 : Int) (x4 : Int) (x5 : Int) (d6 : zV) (d7 : zV) (M : zM) (X : zX) : zex 184 37 [] [(2, r0), (0, x1), (0, x2), (0, x3), (0, x4), (0, x5), d6, d7] M X = zex 184 38 [(0, (0 : Int))] [(2, r0), (0, x1), (0, x2), (0, x3), (0, x4), (0, x5), d6, d7] M X :=
  (zblk 184 zc184 rfl [2, 37, 38, 50, 51, 60, 67, 75, 92, 101, 105, 106] 108 37 _ _ _ _).trans rfl
-- yX12_winds
theorem q184_38 (s0 : Int) (r0 : Int) (x1 : Int) (x2 : Int) (x3 : Int) (x4 : Int) (x5 : Int) (d6 : zV) (d7 : zV) (M : zM) (X : zX) : zex 184 38 [(0, s0)] [(2, r0), (0, x1), (0, x2), (0, x3), (0, x4), (0, x5), d6, d7] M X = if s0 = 0 then zg (zkd X r0 = (18, 0) ∧ 0 < (M r0 60)) (zg ((zkd X (M r0 60)).1 = 0 ∧ 0 ≤ x1 ∧ x1 < ((zkd X (M r0 60)).2 : Int)) (if (M (M r0 60) x1) = (40 : Int) then zg (zkd X r0 = (18, 0) ∧ ((1 : Int) = 0 ∨ (1 : Int) = 1)) (zex 184 50 [] [(2, r0), (0, x1), (0, x2), (0, x3), (0, x4), (0, x5), (0, s0), d7] (zu M r0 63 (1 : Int)) X) else zex 184 51 [] [(2, r0), (0, x1), (0, x2), (0, x3), (0, x4), (0, x5), (0, s0), d7] M X)) else zex 184 51 [] [(2, r0), (0, x1), (0, x2), (0, x3), (0, x4), (0, x5), (0, s0), d7] M X :=
  (zblk 184 zc184 rfl [2, 37, 38, 50, 51, 60, 67, 75, 92, 101, 105, 106] 108 38 _ _ _ _).trans rfl
-- yX12_winds
theorem q184_50 (r0 : Int) (x1 : Int) (x2 : Int) (x3 : Int) (x4 : Int) (x5 : Int) (x6 : Int) (d7 : zV) (M : zM) (X : zX) : zex 184 50 [] [(2, r0), (0, x1), (0, x2), (0, x3), (0, x4), (0, x5), (0, x6), d7] M X = zex 184 105 [] [(2, r0), (0, x1), (0, x2), (0, x3), (0, x4), (0, x5), (0, x6), d7] M X :=
  (zblk 184 zc184 rfl [2, 37, 38, 50, 51, 60, 67, 75, 92, 101, 105, 106] 108 50 _ _ _ _).trans rfl
-- yX12_winds
theorem q184_51 (r0 : Int) (x1 : Int) (x2 : Int) (x3 : Int) (x4 : Int) (x5 : Int) (x6 : Int) (d7 : zV) (M : zM) (X : zX) : zex 184 51 [] [(2, r0), (0, x1), (0, x2), (0, x3), (0, x4), (0, x5), (0, x6), d7] M X = if x6 = 0 then zg (zkd X r0 = (18, 0) ∧ 0 < (M r0 61)) (zg (zI (x5 + (1 : Int))) (zg ((zkd X (M r0 61)).1 = 0 ∧ 0 ≤ (x5 + (1 : Int)) ∧ (x5 + (1 : Int)) < ((zkd X (M r0 61)).2 : Int)) (zex 184 60 [] [(2, r0), (0, x1), (0, x2), (0, x3), (0, x4), (0, x5), (0, x6), d7] (zu M (M r0 61) (x5 + (1 : Int)) x2) X))) else zg (zkd X r0 = (18, 0) ∧ 0 < (M r0 62)) (zg ((zkd X (M r0 62)).1 = 0 ∧ 0 ≤ x5 ∧ x5 < ((zkd X (M r0 62)).2 : Int)) (zg (zI ((200 : Int) - (M (M r0 62) x5))) (if ((200 : Int) - (M (M r0 62) x5)) ≤ x4 then zg (zkd X r0 = (18, 0) ∧ 0 < (M r0 62)) (zg ((zkd X (M r0 62)).1 = 0 ∧ 0 ≤ x5 ∧ x5 < ((zkd X (M r0 62)).2 : Int)) (zg (zI ((200 : Int) - (M (M r0 62) x5))) (zex 184 92 [(0, ((200 : Int) - (M (M r0 62) x5)))] [(2, r0), (0, x1), (0, x2), (0, x3), (0, x4), (0, x5), (0, x6), d7] M X))) else zex 184 92 [(0, x4)] [(2, r0), (0, x1), (0, x2), (0, x3), (0, x4), (0, x5), (0, x6), d7] M X))) :=
  (zblk 184 zc184 rfl [2, 37, 38, 50, 51, 60, 67, 75, 92, 101, 105, 106] 108 51 _ _ _ _).trans rfl
-- yX12_winds
theorem q184_60 (r0 : Int) (x1 : Int) (x2 : Int) (x3 : Int) (x4 : Int) (x5 : Int) (x6 : Int) (d7 : zV) (M : zM) (X : zX) : zex 184 60 [] [(2, r0), (0, x1), (0, x2), (0, x3), (0, x4), (0, x5), (0, x6), d7] M X = zg (zkd X r0 = (18, 0) ∧ 0 < (M r0 62)) (zg (zI (x5 + (1 : Int))) (zg ((zkd X (M r0 62)).1 = 0 ∧ 0 ≤ (x5 + (1 : Int)) ∧ (x5 + (1 : Int)) < ((zkd X (M r0 62)).2 : Int)) (zex 184 67 [] [(2, r0), (0, x1), (0, x2), (0, x3), (0, x4), (0, x5), (0, x6), d7] (zu M (M r0 62) (x5 + (1 : Int)) (0 : Int)) X))) :=
  (zblk 184 zc184 rfl [2, 37, 38, 50, 51, 60, 67, 75, 92, 101, 105, 106] 108 60 _ _ _ _).trans rfl
-- yX12_winds
theorem q184_67 (r0 : Int) (x1 : Int) (x2 : Int) (x3 : Int) (x4 : Int) (x5 : Int) (x6 : Int) (d7 : zV) (M : zM) (X : zX) : zex 184 67 [] [(2, r0), (0, x1), (0, x2), (0, x3), (0, x4), (0, x5), (0, x6), d7] M X = zg (zkd X r0 = (18, 0) ∧ 0 < (M r0 60)) (zg ((zkd X (M r0 60)).1 = 0 ∧ 0 ≤ x1 ∧ x1 < ((zkd X (M r0 60)).2 : Int)) (zg (zI ((M (M r0 60) x1) + (1 : Int))) (zg ((zkd X (M r0 60)).1 = 0 ∧ 0 ≤ x1 ∧ x1 < ((zkd X (M r0 60)).2 : Int)) (zex 184 75 [] [(2, r0), (0, x1), (0, x2), (0, x3), (0, x4), (0, x5), (0, x6), d7] (zu M (M r0 60) x1 ((M (M r0 60) x1) + (1 : Int))) X)))) :=
  (zblk 184 zc184 rfl [2, 37, 38, 50, 51, 60, 67, 75, 92, 101, 105, 106] 108 67 _ _ _ _).trans rfl
-- yX12_winds
theorem q184_75 (r0 : Int) (x1 : Int) (x2 : Int) (x3 : Int) (x4 : Int) (x5 : Int) (x6 : Int) (d7 : zV) (M : zM) (X : zX) : zex 184 75 [] [(2, r0), (0, x1), (0, x2), (0, x3), (0, x4), (0, x5), (0, x6), d7] M X = zex 184 105 [] [(2, r0), (0, x1), (0, x2), (0, x3), (0, x4), (0, x5), (0, x6), d7] M X :=
  (zblk 184 zc184 rfl [2, 37, 38, 50, 51, 60, 67, 75, 92, 101, 105, 106] 108 75 _ _ _ _).trans rfl
-- yX12_winds
theorem q184_92 (s0 : Int) (r0 : Int) (x1 : Int) (x2 : Int) (x3 : Int) (x4 : Int) (x5 : Int) (x6 : Int) (d7 : zV) (M : zM) (X : zX) : zex 184 92 [(0, s0)] [(2, r0), (0, x1), (0, x2), (0, x3), (0, x4), (0, x5), (0, x6), d7] M X = zg (zkd X r0 = (18, 0) ∧ 0 < (M r0 62)) (zg ((zkd X (M r0 62)).1 = 0 ∧ 0 ≤ x5 ∧ x5 < ((zkd X (M r0 62)).2 : Int)) (zg (zI ((M (M r0 62) x5) + s0)) (zg ((zkd X (M r0 62)).1 = 0 ∧ 0 ≤ x5 ∧ x5 < ((zkd X (M r0 62)).2 : Int)) (zex 184 101 [] [(2, r0), (0, x1), (0, x2), (0, x3), (0, x4), (0, x5), (0, x6), (0, s0)] (zu M (M r0 62) x5 ((M (M r0 62) x5) + s0)) X)))) :=
  (zblk 184 zc184 rfl [2, 37, 38, 50, 51, 60, 67, 75, 92, 101, 105, 106] 108 92 _ _ _ _).trans rfl
-- yX12_winds
theorem q184_101 (r0 : Int) (x1 : Int) (x2 : Int) (x3 : Int) (x4 : Int) (x5 : Int) (x6 : Int) (x7 : Int) (M : zM) (X : zX) : zex 184 101 [] [(2, r0), (0, x1), (0, x2), (0, x3), (0, x4), (0, x5), (0, x6), (0, x7)] M X = zg (zI (x4 - x7)) (zex 184 105 [] [(2, r0), (0, x1), (0, x2), (0, x3), (0, (x4 - x7)), (0, x5), (0, x6), (0, x7)] M X) :=
  (zblk 184 zc184 rfl [2, 37, 38, 50, 51, 60, 67, 75, 92, 101, 105, 106] 108 101 _ _ _ _).trans rfl
-- yX12_winds
theorem q184_105 (r0 : Int) (x1 : Int) (x2 : Int) (x3 : Int) (x4 : Int) (x5 : Int) (x6 : Int) (d7 : zV) (M : zM) (X : zX) : zex 184 105 [] [(2, r0), (0, x1), (0, x2), (0, x3), (0, x4), (0, x5), (0, x6), d7] M X = zex 184 2 [] [(2, r0), (0, x1), (0, x2), (0, x3), (0, x4), (0, x5), (0, x6), d7] M X :=
  (zblk 184 zc184 rfl [2, 37, 38, 50, 51, 60, 67, 75, 92, 101, 105, 106] 108 105 _ _ _ _).trans rfl
-- yX12_winds
theorem q184_106 (r0 : Int) (x1 : Int) (x2 : Int) (x3 : Int) (x4 : Int) (d5 : zV) (d6 : zV) (d7 : zV) (M : zM) (X : zX) : zex 184 106 [] [(2, r0), (0, x1), (0, x2), (0, x3), (0, x4), d5, d6, d7] M X = some ((9, 0), M, X) :=
  (zblk 184 zc184 rfl [2, 37, 38, 50, 51, 60, 67, 75, 92, 101, 105, 106] 108 106 _ _ _ _).trans rfl
-- yX12_windsAll
theorem q185_0 (r0 : Int) (x1 : Int) (x2 : Int) (x3 : Int) (x4 : Int) (M : zM) (X : zX) : zex 185 0 [] [(2, r0), (0, x1), (0, x2), (0, x3), (0, x4)] M X = zg (zkd X r0 = (18, 0)) (zbN (zex 184 0 [] [(2, r0), (0, (0 : Int)), (0, x1), (0, x4), (9, 0), (9, 0), (9, 0), (9, 0)] M X) (fun M1 X1 => zg (zkd X1 r0 = (18, 0)) (zbN (zex 184 0 [] [(2, r0), (0, (1 : Int)), (0, x2), (0, x4), (9, 0), (9, 0), (9, 0), (9, 0)] M1 X1) (fun M2 X2 => zg (zkd X2 r0 = (18, 0)) (zbN (zex 184 0 [] [(2, r0), (0, (2 : Int)), (0, x3), (0, x4), (9, 0), (9, 0), (9, 0), (9, 0)] M2 X2) (fun M3 X3 => zg (zkd X3 r0 = (18, 0)) (zg (zI ((M3 r0 64) + x4)) (zg (zkd X3 r0 = (18, 0)) (some ((9, 0), (zu M3 r0 64 ((M3 r0 64) + x4)), X3)))))))))) :=
  (zblk 185 zc185 rfl [] 23 0 _ _ _ _).trans rfl
-- yX12_turnsTo
theorem q186_0 (r0 : Int) (x1 : Int) (M : zM) (X : zX) : zex 186 0 [] [(2, r0), (0, x1)] M X = if x1 = 0 then zex 186 6 [(0, (0 : Int)), (2, r0)] [(2, r0), (0, x1)] M X else zex 186 6 [(0, (1 : Int)), (2, r0)] [(2, r0), (0, x1)] M X :=
  (zblk 186 zc186 rfl [6, 11] 19 0 _ _ _ _).trans rfl
-- yX12_turnsTo
theorem q186_6 (s0 : Int) (s1 : Int) (r0 : Int) (x1 : Int) (M : zM) (X : zX) : zex 186 6 [(0, s1), (2, s0)] [(2, r0), (0, x1)] M X = if x1 = 0 then zex 186 11 [(0, (1 : Int)), (0, s1), (2, s0)] [(2, r0), (0, x1)] M X else zex 186 11 [(0, (0 : Int)), (0, s1), (2, s0)] [(2, r0), (0, x1)] M X :=
  (zblk 186 zc186 rfl [6, 11] 19 6 _ _ _ _).trans rfl
-- yX12_turnsTo
theorem q186_11 (s0 : Int) (s1 : Int) (s2 : Int) (r0 : Int) (x1 : Int) (M : zM) (X : zX) : zex 186 11 [(0, s2), (0, s1), (2, s0)] [(2, r0), (0, x1)] M X = zg (zkd X r0 = (18, 0)) (zg (zI ((4 : Int) * (M r0 5))) (zg (zkd X s0 = (18, 0)) (zbN (zex 185 0 [] [(2, s0), (0, s1), (0, s2), (0, (2 : Int)), (0, ((4 : Int) * (M r0 5)))] M X) (fun M1 X1 => some ((9, 0), M1, X1))))) :=
  (zblk 186 zc186 rfl [6, 11] 19 11 _ _ _ _).trans rfl
-- yX12_makes
theorem q187_0 (r0 : Int) (d1 : zV) (d2 : zV) (d3 : zV) (M : zM) (X : zX) : zex 187 0 [] [(2, r0), d1, d2, d3] M X = zg (zkd X r0 = (18, 0)) (zg (0 < (4 : Int)) (if (Int.tmod (M r0 12) (4 : Int)) = 0 then zg (zkd X r0 = (18, 0) ∧ 0 < (M r0 9)) (zg (zkd X r0 = (18, 0)) (zg (zI ((32 : Int) * (M r0 11))) (zg (zkd X r0 = (18, 0)) (zg (zI (((32 : Int) * (M r0 11)) + (M r0 10))) (zg ((zkd X (M r0 9)).1 = 2 ∧ 0 ≤ (((32 : Int) * (M r0 11)) + (M r0 10)) ∧ (((32 : Int) * (M r0 11)) + (M r0 10)) < ((zkd X (M r0 9)).2 : Int)) (if (M (M r0 9) (((32 : Int) * (M r0 11)) + (M r0 10))) = 0 then zex 187 22 [] [(2, r0), (0, (0 : Int)), d2, d3] M X else some ((0, (-4 : Int)), M, X))))))) else some ((0, (-5 : Int)), M, X))) :=
  (zblk 187 zc187 rfl [22, 30, 35, 38, 55, 84, 91, 113, 124, 129, 140, 141, 167, 188, 199, 202, 217] 219 0 _ _ _ _).trans rfl
-- yX12_makes
theorem q187_22 (r0 : Int) (x1 : Int) (d2 : zV) (d3 : zV) (M : zM) (X : zX) : zex 187 22 [] [(2, r0), (0, x1), d2, d3] M X = if (3 : Int) ≤ x1 then zg (zkd X r0 = (18, 0) ∧ ((0 : Int) = 0 ∨ (0 : Int) = 1)) (zex 187 35 [] [(2, r0), (0, x1), d2, d3] (zu M r0 63 (0 : Int)) X) else zg (zkd X r0 = (18, 0) ∧ 0 < (M r0 60)) (zg ((zkd X (M r0 60)).1 = 0 ∧ 0 ≤ x1 ∧ x1 < ((zkd X (M r0 60)).2 : Int)) (zex 187 30 [] [(2, r0), (0, x1), d2, d3] (zu M (M r0 60) x1 (0 : Int)) X)) :=
  (zblk 187 zc187 rfl [22, 30, 35, 38, 55, 84, 91, 113, 124, 129, 140, 141, 167, 188, 199, 202, 217] 219 22 _ _ _ _).trans rfl
-- yX12_makes
theorem q187_30 (r0 : Int) (x1 : Int) (d2 : zV) (d3 : zV) (M : zM) (X : zX) : zex 187 30 [] [(2, r0), (0, x1), d2, d3] M X = zg (zI (x1 + (1 : Int))) (zex 187 22 [] [(2, r0), (0, (x1 + (1 : Int))), d2, d3] M X) :=
  (zblk 187 zc187 rfl [22, 30, 35, 38, 55, 84, 91, 113, 124, 129, 140, 141, 167, 188, 199, 202, 217] 219 30 _ _ _ _).trans rfl
-- yX12_makes
theorem q187_35 (r0 : Int) (x1 : Int) (d2 : zV) (d3 : zV) (M : zM) (X : zX) : zex 187 35 [] [(2, r0), (0, x1), d2, d3] M X = zg (zkd X r0 = (18, 0)) (zex 187 38 [] [(2, r0), (0, x1), d2, d3] (zu M r0 64 (0 : Int)) X) :=
  (zblk 187 zc187 rfl [22, 30, 35, 38, 55, 84, 91, 113, 124, 129, 140, 141, 167, 188, 199, 202, 217] 219 35 _ _ _ _).trans rfl
-- yX12_makes
theorem q187_38 (r0 : Int) (x1 : Int) (d2 : zV) (d3 : zV) (M : zM) (X : zX) : zex 187 38 [] [(2, r0), (0, x1), d2, d3] M X = zg (zkd X r0 = (18, 0)) (zg (zI ((32 : Int) * (M r0 11))) (zg (zkd X r0 = (18, 0)) (zg (zI (((32 : Int) * (M r0 11)) + (M r0 10))) (zg (zI ((4 : Int) * (((32 : Int) * (M r0 11)) + (M r0 10)))) (zg (zkd X r0 = (18, 0)) (zg (0 < (4 : Int)) (zg (zI (((4 : Int) * (((32 : Int) * (M r0 11)) + (M r0 10))) + (Int.tdiv (M r0 12) (4 : Int)))) (zex 187 55 [] [(2, r0), (0, (((4 : Int) * (((32 : Int) * (M r0 11)) + (M r0 10))) + (Int.tdiv (M r0 12) (4 : Int)))), (0, (0 : Int)), d3] M X)))))))) :=
  (zblk 187 zc187 rfl [22, 30, 35, 38, 55, 84, 91, 113, 124, 129, 140, 141, 167, 188, 199, 202, 217] 219 38 _ _ _ _).trans rfl
-- yX12_makes
set_option maxRecDepth 20000 in
theorem q187_55 (r0 : Int) (x1 : Int) (x2 : Int) (d3 : zV) (M : zM) (X : zX) : zex 187 55 [] [(2, r0), (0, x1), (0, x2), d3] M X = zg (zkd X r0 = (18, 0)) (if (M r0 17) ≤ x2 then zg (zkd X r0 = (18, 0)) (if (M r0 63) = 0 then zg (zkd X r0 = (18, 0)) (zg (zkd X r0 = (18, 0)) (if (M r0 64) ≤ (M r0 16) then zex 187 217 [(0, (0 : Int))] [(2, r0), (0, x1), (0, x2), d3] M X else zex 187 217 [(0, (-6 : Int))] [(2, r0), (0, x1), (0, x2), d3] M X)) else zex 187 217 [(0, (-2 : Int))] [(2, r0), (0, x1), (0, x2), d3] M X) else zg (zkd X r0 = (18, 0) ∧ 0 < (M r0 18)) (zg ((zkd X (M r0 18)).1 = 0 ∧ 0 ≤ x2 ∧ x2 < ((zkd X (M r0 18)).2 : Int)) (if (M (M r0 18) x2) = (0 : Int) then zg (zkd X r0 = (18, 0) ∧ 0 < (M r0 19)) (zg ((zkd X (M r0 19)).1 = 0 ∧ 0 ≤ x2 ∧ x2 < ((zkd X (M r0 19)).2 : Int)) (zg (zkd X r0 = (18, 0) ∧ 0 < (M r0 20)) (zg ((zkd X (M r0 20)).1 = 0 ∧ 0 ≤ x2 ∧ x2 < ((zkd X (M r0 20)).2 : Int)) (zg (zkd X r0 = (18, 0)) (zbN (zex 182 0 [] [(2, r0), (0, (M (M r0 19) x2)), (0, (M (M r0 20) x2)), (9, 0), (9, 0), (9, 0), (9, 0)] M X) (fun M3 X3 => zg (zkd X3 r0 = (18, 0) ∧ 0 < (M3 r0 59)) (zg ((zkd X3 (M3 r0 59)).1 = 0 ∧ 0 ≤ x1 ∧ x1 < ((zkd X3 (M3 r0 59)).2 : Int)) (if (M3 (M3 r0 59) x1) = (-1 : Int) then zg (zI ((-100 : Int) - x2)) (some ((0, ((-100 : Int) - x2)), M3, X3)) else zex 187 84 [] [(2, r0), (0, x1), (0, x2), d3] M3 X3)))))))) else if (M (M r0 18) x2) = (1 : Int) then zg (zkd X r0 = (18, 0) ∧ 0 < (M r0 19)) (zg ((zkd X (M r0 19)).1 = 0 ∧ 0 ≤ x2 ∧ x2 < ((zkd X (M r0 19)).2 : Int)) (zg (zkd X r0 = (18, 0)) (zbN (zex 185 0 [] [(2, r0), (0, (2 : Int)), (0, (2 : Int)), (0, (2 : Int)), (0, (M (M r0 19) x2))] M X) (fun M2 X2 => zex 187 202 [] [(2, r0), (0, x1), (0, x2), d3] M2 X2)))) else if (M (M r0 18) x2) = (2 : Int) then zg (zkd X r0 = (18, 0) ∧ 0 < (M r0 19)) (zg ((zkd X (M r0 19)).1 = 0 ∧ 0 ≤ x2 ∧ x2 < ((zkd X (M r0 19)).2 : Int)) (zg (zkd X r0 = (18, 0)) (zbN (zex 185 0 [] [(2, r0), (0, (2 : Int)), (0, (2 : Int)), (0, (0 : Int)), (0, (M (M r0 19) x2))] M X) (fun M1 X1 => zex 187 202 [] [(2, r0), (0, x1), (0, x2), d3] M1 X1)))) else zex 187 167 [] [(2, r0), (0, x1), (0, x2), d3] M X))) :=
  (zblk 187 zc187 rfl [22, 30, 35, 38, 55, 84, 91, 113, 124, 129, 140, 141, 167, 188, 199, 202, 217] 219 55 _ _ _ _).trans rfl
-- yX12_makes
theorem q187_84 (r0 : Int) (x1 : Int) (x2 : Int) (d3 : zV) (M : zM) (X : zX) : zex 187 84 [] [(2, r0), (0, x1), (0, x2), d3] M X = zg (zkd X r0 = (18, 0) ∧ 0 < (M r0 59)) (zg ((zkd X (M r0 59)).1 = 0 ∧ 0 ≤ x1 ∧ x1 < ((zkd X (M r0 59)).2 : Int)) (if (M (M r0 59) x1) = 0 then zex 187 202 [] [(2, r0), (0, x1), (0, x2), d3] M X else zex 187 91 [] [(2, r0), (0, x1), (0, x2), (0, (0 : Int))] M X)) :=
  (zblk 187 zc187 rfl [22, 30, 35, 38, 55, 84, 91, 113, 124, 129, 140, 141, 167, 188, 199, 202, 217] 219 84 _ _ _ _).trans rfl
-- yX12_makes
set_option maxRecDepth 20000 in
theorem q187_91 (r0 : Int) (x1 : Int) (x2 : Int) (x3 : Int) (M : zM) (X : zX) : zex 187 91 [] [(2, r0), (0, x1), (0, x2), (0, x3)] M X = zg (zkd X r0 = (18, 0)) (zbI (zex 180 0 [] [(2, r0), (0, x1), (0, x3), (9, 0), (9, 0), (9, 0), (9, 0), (9, 0), (9, 0)] M X) (fun v1 M1 X1 => if v1 = (-1 : Int) then zex 187 113 [] [(2, r0), (0, x1), (0, x2), (0, x3)] M1 X1 else zg (zkd X1 r0 = (18, 0) ∧ 0 < (M1 r0 59)) (zg (zkd X1 r0 = (18, 0)) (zbI (zex 180 0 [] [(2, r0), (0, x1), (0, x3), (9, 0), (9, 0), (9, 0), (9, 0), (9, 0), (9, 0)] M1 X1) (fun v2 M2 X2 => zg ((zkd X2 (M1 r0 59)).1 = 0 ∧ 0 ≤ v2 ∧ v2 < ((zkd X2 (M1 r0 59)).2 : Int)) (zg (zkd X2 r0 = (18, 0)) (zbI (zex 181 0 [] [(2, r0), (0, x3)] M2 X2) (fun v3 M3 X3 => zg (zI ((M2 (M1 r0 59) v2) + v3)) (zg (zkd X3 r0 = (18, 0) ∧ 0 < (M3 r0 59)) (zg ((zkd X3 (M3 r0 59)).1 = 0 ∧ 0 ≤ x1 ∧ x1 < ((zkd X3 (M3 r0 59)).2 : Int)) (if ((M2 (M1 r0 59) v2) + v3) = (M3 (M3 r0 59) x1) then if (2 : Int) ≤ x3 then if x3 = (2 : Int) then zex 187 140 [(0, (1 : Int)), (2, r0)] [(2, r0), (0, x1), (0, x2), (0, x3)] M3 X3 else zex 187 140 [(0, (0 : Int)), (2, r0)] [(2, r0), (0, x1), (0, x2), (0, x3)] M3 X3 else if x3 = 0 then zex 187 124 [(0, (0 : Int)), (2, r0)] [(2, r0), (0, x1), (0, x2), (0, x3)] M3 X3 else zex 187 124 [(0, (1 : Int)), (2, r0)] [(2, r0), (0, x1), (0, x2), (0, x3)] M3 X3 else zex 187 113 [] [(2, r0), (0, x1), (0, x2), (0, x3)] M3 X3))))))))))) :=
  (zblk 187 zc187 rfl [22, 30, 35, 38, 55, 84, 91, 113, 124, 129, 140, 141, 167, 188, 199, 202, 217] 219 91 _ _ _ _).trans rfl
-- yX12_makes
theorem q187_113 (r0 : Int) (x1 : Int) (x2 : Int) (x3 : Int) (M : zM) (X : zX) : zex 187 113 [] [(2, r0), (0, x1), (0, x2), (0, x3)] M X = zg (zI (x3 + (1 : Int))) (zex 187 91 [] [(2, r0), (0, x1), (0, x2), (0, (x3 + (1 : Int)))] M X) :=
  (zblk 187 zc187 rfl [22, 30, 35, 38, 55, 84, 91, 113, 124, 129, 140, 141, 167, 188, 199, 202, 217] 219 113 _ _ _ _).trans rfl
-- yX12_makes
theorem q187_124 (s0 : Int) (s1 : Int) (r0 : Int) (x1 : Int) (x2 : Int) (x3 : Int) (M : zM) (X : zX) : zex 187 124 [(0, s1), (2, s0)] [(2, r0), (0, x1), (0, x2), (0, x3)] M X = if x3 = 0 then zex 187 129 [(0, (0 : Int)), (0, s1), (2, s0)] [(2, r0), (0, x1), (0, x2), (0, x3)] M X else zex 187 129 [(0, (1 : Int)), (0, s1), (2, s0)] [(2, r0), (0, x1), (0, x2), (0, x3)] M X :=
  (zblk 187 zc187 rfl [22, 30, 35, 38, 55, 84, 91, 113, 124, 129, 140, 141, 167, 188, 199, 202, 217] 219 124 _ _ _ _).trans rfl
-- yX12_makes
theorem q187_129 (s0 : Int) (s1 : Int) (s2 : Int) (r0 : Int) (x1 : Int) (x2 : Int) (x3 : Int) (M : zM) (X : zX) : zex 187 129 [(0, s2), (0, s1), (2, s0)] [(2, r0), (0, x1), (0, x2), (0, x3)] M X = zg (zkd X s0 = (18, 0)) (zbN (zex 185 0 [] [(2, s0), (0, s1), (0, s2), (0, (2 : Int)), (0, (1 : Int))] M X) (fun M1 X1 => zex 187 141 [] [(2, r0), (0, x1), (0, x2), (0, x3)] M1 X1)) :=
  (zblk 187 zc187 rfl [22, 30, 35, 38, 55, 84, 91, 113, 124, 129, 140, 141, 167, 188, 199, 202, 217] 219 129 _ _ _ _).trans rfl
-- yX12_makes
theorem q187_140 (s0 : Int) (s1 : Int) (r0 : Int) (x1 : Int) (x2 : Int) (x3 : Int) (M : zM) (X : zX) : zex 187 140 [(0, s1), (2, s0)] [(2, r0), (0, x1), (0, x2), (0, x3)] M X = zg (zkd X s0 = (18, 0)) (zbN (zex 186 0 [] [(2, s0), (0, s1)] M X) (fun M1 X1 => zex 187 141 [] [(2, r0), (0, x1), (0, x2), (0, x3)] M1 X1)) :=
  (zblk 187 zc187 rfl [22, 30, 35, 38, 55, 84, 91, 113, 124, 129, 140, 141, 167, 188, 199, 202, 217] 219 140 _ _ _ _).trans rfl
-- yX12_makes
theorem q187_141 (r0 : Int) (x1 : Int) (x2 : Int) (x3 : Int) (M : zM) (X : zX) : zex 187 141 [] [(2, r0), (0, x1), (0, x2), (0, x3)] M X = zg (zkd X r0 = (18, 0)) (zbI (zex 180 0 [] [(2, r0), (0, x1), (0, x3), (9, 0), (9, 0), (9, 0), (9, 0), (9, 0), (9, 0)] M X) (fun v1 M1 X1 => zex 187 84 [] [(2, r0), (0, v1), (0, x2), (0, x3)] M1 X1)) :=
  (zblk 187 zc187 rfl [22, 30, 35, 38, 55, 84, 91, 113, 124, 129, 140, 141, 167, 188, 199, 202, 217] 219 141 _ _ _ _).trans rfl
-- yX12_makes
theorem q187_167 (r0 : Int) (x1 : Int) (x2 : Int) (d3 : zV) (M : zM) (X : zX) : zex 187 167 [] [(2, r0), (0, x1), (0, x2), d3] M X = zg (0 < (4 : Int)) (zg (zkd X r0 = (18, 0) ∧ 0 < (M r0 19)) (zg ((zkd X (M r0 19)).1 = 0 ∧ 0 ≤ x2 ∧ x2 < ((zkd X (M r0 19)).2 : Int)) (if (Int.tmod x1 (4 : Int)) = (M (M r0 19) x2) then zex 187 202 [] [(2, r0), (0, x1), (0, x2), d3] M X else zg (zI (x1 + (3 : Int))) (zg (0 < (4 : Int)) (zg (zkd X r0 = (18, 0) ∧ 0 < (M r0 19)) (zg ((zkd X (M r0 19)).1 = 0 ∧ 0 ≤ x2 ∧ x2 < ((zkd X (M r0 19)).2 : Int)) (if (Int.tmod (x1 + (3 : Int)) (4 : Int)) = (M (M r0 19) x2) then zex 187 188 [(0, (0 : Int))] [(2, r0), (0, x1), (0, x2), d3] M X else zex 187 188 [(0, (1 : Int))] [(2, r0), (0, x1), (0, x2), d3] M X))))))) :=
  (zblk 187 zc187 rfl [22, 30, 35, 38, 55, 84, 91, 113, 124, 129, 140, 141, 167, 188, 199, 202, 217] 219 167 _ _ _ _).trans rfl
-- yX12_makes
theorem q187_188 (s0 : Int) (r0 : Int) (x1 : Int) (x2 : Int) (d3 : zV) (M : zM) (X : zX) : zex 187 188 [(0, s0)] [(2, r0), (0, x1), (0, x2), d3] M X = zg (zkd X r0 = (18, 0)) (zbN (zex 186 0 [] [(2, r0), (0, s0)] M X) (fun M1 X1 => if s0 = 0 then zex 187 199 [(0, (3 : Int)), (0, x1), (2, r0)] [(2, r0), (0, x1), (0, x2), (0, s0)] M1 X1 else zex 187 199 [(0, (2 : Int)), (0, x1), (2, r0)] [(2, r0), (0, x1), (0, x2), (0, s0)] M1 X1)) :=
  (zblk 187 zc187 rfl [22, 30, 35, 38, 55, 84, 91, 113, 124, 129, 140, 141, 167, 188, 199, 202, 217] 219 188 _ _ _ _).trans rfl
-- yX12_makes
theorem q187_199 (s0 : Int) (s1 : Int) (s2 : Int) (r0 : Int) (x1 : Int) (x2 : Int) (x3 : Int) (M : zM) (X : zX) : zex 187 199 [(0, s2), (0, s1), (2, s0)] [(2, r0), (0, x1), (0, x2), (0, x3)] M X = zg (zkd X s0 = (18, 0)) (zbI (zex 180 0 [] [(2, s0), (0, s1), (0, s2), (9, 0), (9, 0), (9, 0), (9, 0), (9, 0), (9, 0)] M X) (fun v1 M1 X1 => zex 187 167 [] [(2, r0), (0, v1), (0, x2), (0, x3)] M1 X1)) :=
  (zblk 187 zc187 rfl [22, 30, 35, 38, 55, 84, 91, 113, 124, 129, 140, 141, 167, 188, 199, 202, 217] 219 199 _ _ _ _).trans rfl
-- yX12_makes
theorem q187_202 (r0 : Int) (x1 : Int) (x2 : Int) (d3 : zV) (M : zM) (X : zX) : zex 187 202 [] [(2, r0), (0, x1), (0, x2), d3] M X = zg (zI (x2 + (1 : Int))) (zex 187 55 [] [(2, r0), (0, x1), (0, (x2 + (1 : Int))), d3] M X) :=
  (zblk 187 zc187 rfl [22, 30, 35, 38, 55, 84, 91, 113, 124, 129, 140, 141, 167, 188, 199, 202, 217] 219 202 _ _ _ _).trans rfl
-- yX12_makes
theorem q187_217 (s0 : Int) (r0 : Int) (x1 : Int) (x2 : Int) (d3 : zV) (M : zM) (X : zX) : zex 187 217 [(0, s0)] [(2, r0), (0, x1), (0, x2), d3] M X = some ((0, s0), M, X) :=
  (zblk 187 zc187 rfl [22, 30, 35, 38, 55, 84, 91, 113, 124, 129, 140, 141, 167, 188, 199, 202, 217] 219 217 _ _ _ _).trans rfl
-- yX12_make
theorem q188_0 (r0 : Int) (d1 : zV) (d2 : zV) (d3 : zV) (M : zM) (X : zX) : zex 188 0 [] [(2, r0), d1, d2, d3] M X = zg (zkd X r0 = (18, 0)) (zbI (zex 187 0 [] [(2, r0), (9, 0), (9, 0), (9, 0)] M X) (fun v1 M1 X1 => if v1 = 0 then zex 188 9 [] [(2, r0), (0, v1), (0, (0 : Int)), d3] M1 X1 else some ((0, v1), M1, X1))) :=
  (zblk 188 zc188 rfl [9, 20, 24, 42, 50, 55] 63 0 _ _ _ _).trans rfl
-- yX12_make
theorem q188_9 (r0 : Int) (x1 : Int) (x2 : Int) (d3 : zV) (M : zM) (X : zX) : zex 188 9 [] [(2, r0), (0, x1), (0, x2), d3] M X = if (3 : Int) ≤ x2 then zg (zkd X r0 = (18, 0)) (some ((0, (M r0 64)), M, X)) else zg (zkd X r0 = (18, 0) ∧ 0 < (M r0 1)) (zg (zkd X r0 = (18, 0) ∧ 0 < (M r0 60)) (zg ((zkd X (M r0 60)).1 = 0 ∧ 0 ≤ x2 ∧ x2 < ((zkd X (M r0 60)).2 : Int)) (zg ((zkd X (M r0 1)).1 = 0 ∧ 0 ≤ x2 ∧ x2 < ((zkd X (M r0 1)).2 : Int)) (zex 188 20 [] [(2, r0), (0, x1), (0, x2), d3] (zu M (M r0 1) x2 (M (M r0 60) x2)) X)))) :=
  (zblk 188 zc188 rfl [9, 20, 24, 42, 50, 55] 63 9 _ _ _ _).trans rfl
-- yX12_make
theorem q188_20 (r0 : Int) (x1 : Int) (x2 : Int) (d3 : zV) (M : zM) (X : zX) : zex 188 20 [] [(2, r0), (0, x1), (0, x2), d3] M X = zg (zI ((40 : Int) * x2)) (zex 188 24 [] [(2, r0), (0, x1), (0, x2), (0, ((40 : Int) * x2))] M X) :=
  (zblk 188 zc188 rfl [9, 20, 24, 42, 50, 55] 63 20 _ _ _ _).trans rfl
-- yX12_make
theorem q188_24 (r0 : Int) (x1 : Int) (x2 : Int) (x3 : Int) (M : zM) (X : zX) : zex 188 24 [] [(2, r0), (0, x1), (0, x2), (0, x3)] M X = zg (zI ((40 : Int) * x2)) (zg (zkd X r0 = (18, 0) ∧ 0 < (M r0 1)) (zg ((zkd X (M r0 1)).1 = 0 ∧ 0 ≤ x2 ∧ x2 < ((zkd X (M r0 1)).2 : Int)) (zg (zI (((40 : Int) * x2) + (M (M r0 1) x2))) (if (((40 : Int) * x2) + (M (M r0 1) x2)) ≤ x3 then zg (zI (x2 + (1 : Int))) (zex 188 9 [] [(2, r0), (0, x1), (0, (x2 + (1 : Int))), (0, x3)] M X) else zg (zkd X r0 = (18, 0) ∧ 0 < (M r0 2)) (zg (zkd X r0 = (18, 0) ∧ 0 < (M r0 61)) (zg ((zkd X (M r0 61)).1 = 0 ∧ 0 ≤ x3 ∧ x3 < ((zkd X (M r0 61)).2 : Int)) (zg ((zkd X (M r0 2)).1 = 0 ∧ 0 ≤ x3 ∧ x3 < ((zkd X (M r0 2)).2 : Int)) (zex 188 42 [] [(2, r0), (0, x1), (0, x2), (0, x3)] (zu M (M r0 2) x3 (M (M r0 61) x3)) X)))))))) :=
  (zblk 188 zc188 rfl [9, 20, 24, 42, 50, 55] 63 24 _ _ _ _).trans rfl
