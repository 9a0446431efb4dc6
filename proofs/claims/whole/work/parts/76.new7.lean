/-! CONSTRUCTORS: the class is reset before the reference is made -/
theorem zq177_1 (n m : Nat) : zkd (zKs.take 177, n, m) 1 = (17, 0) := zkT (by decide +kernel) n m
theorem zq177_2 (n m : Nat) : zkd (zKs.take 177, n, m) 2 = (6, 0) := zkT (by decide +kernel) n m
theorem zq177_3 (n m : Nat) : zkd (zKs.take 177, n, m) 3 = (3, 3) := zkT (by decide +kernel) n m
theorem zq177_4 (n m : Nat) : zkd (zKs.take 177, n, m) 4 = (0, 801) := zkT (by decide +kernel) n m
theorem zq177_5 (n m : Nat) : zkd (zKs.take 177, n, m) 5 = (7, 0) := zkT (by decide +kernel) n m
theorem zq177_6 (n m : Nat) : zkd (zKs.take 177, n, m) 6 = (0, 40) := zkT (by decide +kernel) n m
theorem zq177_7 (n m : Nat) : zkd (zKs.take 177, n, m) 7 = (0, 40) := zkT (by decide +kernel) n m
theorem zq177_8 (n m : Nat) : zkd (zKs.take 177, n, m) 8 = (0, 40) := zkT (by decide +kernel) n m
theorem zq177_9 (n m : Nat) : zkd (zKs.take 177, n, m) 9 = (7, 0) := zkT (by decide +kernel) n m
theorem zq177_10 (n m : Nat) : zkd (zKs.take 177, n, m) 10 = (0, 40) := zkT (by decide +kernel) n m
theorem zq177_11 (n m : Nat) : zkd (zKs.take 177, n, m) 11 = (0, 40) := zkT (by decide +kernel) n m
theorem zq177_12 (n m : Nat) : zkd (zKs.take 177, n, m) 12 = (0, 40) := zkT (by decide +kernel) n m
theorem zq177_13 (n m : Nat) : zkd (zKs.take 177, n, m) 13 = (7, 0) := zkT (by decide +kernel) n m
theorem zq177_14 (n m : Nat) : zkd (zKs.take 177, n, m) 14 = (0, 40) := zkT (by decide +kernel) n m
theorem zq177_15 (n m : Nat) : zkd (zKs.take 177, n, m) 15 = (0, 40) := zkT (by decide +kernel) n m
theorem zq177_16 (n m : Nat) : zkd (zKs.take 177, n, m) 16 = (0, 40) := zkT (by decide +kernel) n m
theorem zq177_17 (n m : Nat) : zkd (zKs.take 177, n, m) 17 = (11, 0) := zkT (by decide +kernel) n m
theorem zq177_18 (n m : Nat) : zkd (zKs.take 177, n, m) 18 = (9, 0) := zkT (by decide +kernel) n m
theorem zq177_19 (n m : Nat) : zkd (zKs.take 177, n, m) 19 = (2, 1024) := zkT (by decide +kernel) n m
theorem zq177_25 (n m : Nat) : zkd (zKs.take 177, n, m) 25 = (15, 0) := zkT (by decide +kernel) n m
theorem zq177_26 (n m : Nat) : zkd (zKs.take 177, n, m) 26 = (0, 30) := zkT (by decide +kernel) n m
theorem zq177_36 (n m : Nat) : zkd (zKs.take 177, n, m) 36 = (13, 0) := zkT (by decide +kernel) n m
theorem zq177_47 (n m : Nat) : zkd (zKs.take 177, n, m) 47 = (16, 0) := zkT (by decide +kernel) n m
theorem zq177_65 (n m : Nat) : zkd (zKs.take 177, n, m) 65 = (8, 0) := zkT (by decide +kernel) n m
theorem zCd3c {M : zM} (h : zPC M) (n m : Nat) {a : Int} (ha : 0 ≤ a ∧ a ≤ 2) : zCd M (zKs.take 177, n, m) (5 + 4 * a) := by
  rcases (by omega : a = 0 ∨ a = 1 ∨ a = 2) with rfl | rfl | rfl
  · exact ⟨by omega, zq177_5 n m, zq177_6 n m, zq177_7 n m, zq177_8 n m, zp_5_1 h, zp_5_2 h, zp_5_3 h⟩
  · exact ⟨by omega, zq177_9 n m, zq177_10 n m, zq177_11 n m, zq177_12 n m, zp_9_1 h, zp_9_2 h, zp_9_3 h⟩
  · exact ⟨by omega, zq177_13 n m, zq177_14 n m, zq177_15 n m, zq177_16 n m, zp_13_1 h, zp_13_2 h, zp_13_3 h⟩
theorem zCa2c {M : zM} (h : zPC M) (n m : Nat) : zCa M (zKs.take 177, n, m) 2 := 
  ⟨by omega, zq177_2 n m, zq177_3 n m, zq177_4 n m, zp_2_0 h, zp_2_1 h, zp_3_0 h, zp_3_1 h, zp_3_2 h, zCd3c h n m (a := 0) (by omega), zCd3c h n m (a := 1) (by omega), zCd3c h n m (a := 2) (by omega)⟩
theorem e34_lc {M : zM} {n m : Nat} (r0 : zPC M) : ∀ (q : Nat) (i : Int), 0 ≤ i → i + q = 1024 → zex 34 2 [] [(2, 18), (0, i)] (zfl M 19 i 0) (zKs.take 177, n, m) = some ((9, 0), zu (zfl M 19 1024 0) 18 1 0, (zKs.take 177, n, m))
  | 0, i, h0, h1 => by
    rw [q34_2, if_pos (by omega), zg_pos (zq177_18 n m), show i = 1024 by omega]
  | q + 1, i, h0, h1 => by
    rw [← e34_lc (n := n) (m := m) r0 q (i + 1) (by omega) (by omega), q34_2]
    simp (disch := omega) only [zq177_18, zq177_19, zfl_r, zp_18_0 r0, zfl_s, zg_pos, if_neg, zI, ↓reduceIte, Int.reduceEq, Int.reduceLE, Int.reduceLT, Int.reduceAdd, Int.reduceSub, Int.reduceMul, Int.reduceNeg, zg_T, zbI_ok, zbL_ok, zbN_ok, zite1, zite2, zite3, zem, Int.cast_ofNat_Int, and_self, and_true, true_and, or_true, true_or, or_self, ite_not, if_true, if_false, not_true_eq_false, not_false_eq_true]
theorem e80c {M : zM} {n m : Nat} (h : zPC M) : zex 80 0 [] [(2, 25)] M (zKs.take 177, n, m) = some ((9, 0), zu (zu (zu (zu M 26 0 1) 25 1 1) 25 2 9) 25 3 2000, (zKs.take 177, n, m)) := by
  simp (disch := omega) only [q80_0, q80_5, q80_8, q80_11, q80_14, zp_25_0 h, zq177_25, zq177_26, zun, zg_pos, zI, ↓reduceIte, Int.reduceEq, Int.reduceLE, Int.reduceLT, Int.reduceAdd, Int.reduceSub, Int.reduceMul, Int.reduceNeg, zg_T, zbI_ok, zbL_ok, zbN_ok, zite1, zite2, zite3, zem, Int.cast_ofNat_Int, and_self, and_true, true_and, or_true, true_or, or_self, ite_not, if_true, if_false, not_true_eq_false, not_false_eq_true]
theorem e132c {M : zM} {n m : Nat} (r0 : zPC M) : ∃ M', zex 132 0 [] [(2, 1)] M (zKs.take 177, n, m) = some ((9, 0), M', (zKs.take 177, n, m)) ∧ zFC M' ∧ zPC M' ∧ (∀ r y, (r < 1 ∨ 65 < r) → M' r y = M r y) := by
  have c1 := e1 (d := (9, 0)) (zCa2c r0 n m)
  have f1 : ∀ r y, (r ≠ 2 ∧ r ≠ 4 ∧ r ≠ 5 ∧ r ≠ 9 ∧ r ≠ 13) ∨ (r = 2 ∧ y < 2) ∨ (r = 5 ∧ y ≠ 0) ∨ (r = 9 ∧ y ≠ 0) ∨ (r = 13 ∧ y ≠ 0) → zst M 2 r y = M r y := fun r y hr => by
    unfold zst
    simp only [Int.reduceAdd]
    by_cases e : r = 2
    · subst e
      rw [zun2 (by omega), zun2 (by omega), zfl_r (by omega), zun (by omega), zun (by omega), zun (by omega)]
    · rw [zun e, zun e, zfl_r (by omega)]
      by_cases e1 : y = 0
      · rw [zun (by omega), zun (by omega), zun (by omega)]
      · rw [zun2 e1, zun2 e1, zun2 e1]
  have v1 : zst M 2 2 2 = 0 ∧ zst M 2 2 3 = 2 ∧ zst M 2 5 0 = 0 ∧ zst M 2 9 0 = 0 ∧ zst M 2 13 0 = 0 ∧ ∀ y, 0 ≤ y → y ≤ 800 → zst M 2 4 y = 0 := by
    unfold zst
    simp only [Int.reduceAdd]
    refine ⟨by rw [zun2 (by omega), zus], by rw [zus], ?_, ?_, ?_, fun y y0 y1 => ?_⟩
    · rw [zun (by omega), zun (by omega), zfl_r (by omega), zun (by omega), zun (by omega), zus]
    · rw [zun (by omega), zun (by omega), zfl_r (by omega), zun (by omega), zus]
    · rw [zun (by omega), zun (by omega), zfl_r (by omega), zus]
    · rw [zun (by omega), zun (by omega), zfl_in (by omega)]
  generalize zst M 2 = M1 at c1 f1 v1
  have k1 : zPC M1 := zPC_t (fun r y => (decide (r = 2) && decide (2 ≤ y)) || decide (r = 4) || (decide (r = 5 ∨ r = 9 ∨ r = 13) && decide (y = 0))) (by decide +kernel) r0 (fun r y hr => f1 r y (by simp at hr; omega))
  have c2 := e34_lc (n := n) (m := m) k1 1024 0 (by omega) (by omega)
  rw [zfl_0] at c2
  have k2 : zPC (zu (zfl M1 19 1024 0) 18 1 0) := zPC_zu (zPC_t (fun r y => decide (r = 19)) (by decide +kernel) k1 (fun r y hr => zfl_r (by simpa using hr))) (by decide +kernel)
  have v2 : ∀ r y, r ≠ 19 → (r ≠ 18 ∨ y ≠ 1) → zu (zfl M1 19 1024 0) 18 1 0 r y = M1 r y := fun r y h1 h2 => by
    by_cases e : r = 18
    · rw [zun2 (by omega), zfl_r h1]
    · rw [zun e, zfl_r h1]
  have v3 : zu (zfl M1 19 1024 0) 18 1 0 18 1 = 0 ∧ ∀ y, 0 ≤ y → y < 1024 → zu (zfl M1 19 1024 0) 18 1 0 19 y = 0 := ⟨zus, fun y y0 y1 => by rw [zun (by omega), zfl_in (by omega)]⟩
  generalize zu (zfl M1 19 1024 0) 18 1 0 = M2 at c2 k2 v2 v3
  have k3 : zPC (zu (zu (zu (zu (zu M2 17 0 (1000 * 0 + 500)) 17 1 (1000 * 0 + 500)) 17 2 0) 17 3 0) 17 4 0) := zPC_zu (zPC_zu (zPC_zu (zPC_zu (zPC_zu k2 (by decide +kernel)) (by decide +kernel)) (by decide +kernel)) (by decide +kernel)) (by decide +kernel)
  have c3 := e51 (M := M2) (x := 0) (y := 0) (d := 0) (zq177_17 n m) (by omega) (by omega)
  have v4 : ∀ r y, r ≠ 17 → zu (zu (zu (zu (zu M2 17 0 (1000 * 0 + 500)) 17 1 (1000 * 0 + 500)) 17 2 0) 17 3 0) 17 4 0 r y = M2 r y := fun r y h1 => by rw [zun h1, zun h1, zun h1, zun h1, zun h1]
  have v5 : zu (zu (zu (zu (zu M2 17 0 (1000 * 0 + 500)) 17 1 (1000 * 0 + 500)) 17 2 0) 17 3 0) 17 4 0 17 0 = 500 ∧ zu (zu (zu (zu (zu M2 17 0 (1000 * 0 + 500)) 17 1 (1000 * 0 + 500)) 17 2 0) 17 3 0) 17 4 0 17 1 = 500 ∧ zu (zu (zu (zu (zu M2 17 0 (1000 * 0 + 500)) 17 1 (1000 * 0 + 500)) 17 2 0) 17 3 0) 17 4 0 17 2 = 0 ∧ zu (zu (zu (zu (zu M2 17 0 (1000 * 0 + 500)) 17 1 (1000 * 0 + 500)) 17 2 0) 17 3 0) 17 4 0 17 3 = 0 ∧ zu (zu (zu (zu (zu M2 17 0 (1000 * 0 + 500)) 17 1 (1000 * 0 + 500)) 17 2 0) 17 3 0) 17 4 0 17 4 = 0 := by
    simp (disch := omega) only [zun2, zus, Int.reduceMul, Int.reduceAdd]
    exact ⟨trivial, trivial, trivial, trivial, trivial⟩
  generalize zu (zu (zu (zu (zu M2 17 0 (1000 * 0 + 500)) 17 1 (1000 * 0 + 500)) 17 2 0) 17 3 0) 17 4 0 = M3 at c3 k3 v4 v5
  have c4 := e80c (n := n) (m := m) k3
  have k4 : zPC (zu (zu (zu (zu M3 26 0 1) 25 1 1) 25 2 9) 25 3 2000) := zPC_zu (zPC_zu (zPC_zu (zPC_zu k3 (by decide +kernel)) (by decide +kernel)) (by decide +kernel)) (by decide +kernel)
  have v6 : ∀ r y, r ≠ 26 → r ≠ 25 → zu (zu (zu (zu M3 26 0 1) 25 1 1) 25 2 9) 25 3 2000 r y = M3 r y := fun r y h1 h2 => by rw [zun h2, zun h2, zun h2, zun h1]
  have v7 : zu (zu (zu (zu M3 26 0 1) 25 1 1) 25 2 9) 25 3 2000 26 0 = 1 ∧ zu (zu (zu (zu M3 26 0 1) 25 1 1) 25 2 9) 25 3 2000 25 1 = 1 ∧ zu (zu (zu (zu M3 26 0 1) 25 1 1) 25 2 9) 25 3 2000 25 2 = 9 ∧ zu (zu (zu (zu M3 26 0 1) 25 1 1) 25 2 9) 25 3 2000 25 3 = 2000 := by
    simp (disch := omega) only [zun, zun2, zus]
    exact ⟨trivial, trivial, trivial, trivial⟩
  generalize zu (zu (zu (zu M3 26 0 1) 25 1 1) 25 2 9) 25 3 2000 = M4 at c4 k4 v6 v7
  refine ⟨zu (zu (zu (zu M4 47 1 0) 65 2 0) 36 0 0) 1 9 0, ?_, ?_, zPC_zu (zPC_zu (zPC_zu (zPC_zu k4 (by decide +kernel)) (by decide +kernel)) (by decide +kernel)) (by decide +kernel), fun r y hr => ?_⟩
  · simp (disch := omega) only [q132_0, q132_19, q132_23, q132_27, q132_30, c1, c2, c3, c4, q34_0, zq177_1, zq177_2, zq177_17, zq177_18, zq177_25, zq177_36, zq177_47, zq177_65, zp_1_0 r0, zp_1_2 k1, zp_1_1 k2, zp_1_3 k3, zp_1_5 k4, zp_1_6 k4, zp_1_7 k4, zun, zg_pos, ↓reduceIte, Int.reduceEq, Int.reduceLE, Int.reduceLT, Int.reduceAdd, Int.reduceSub, Int.reduceMul, Int.reduceNeg, zg_T, zbI_ok, zbL_ok, zbN_ok, zite1, zite2, zite3, zem, Int.cast_ofNat_Int, and_self, and_true, true_and, or_true, true_or, or_self, ite_not, if_true, if_false, not_true_eq_false, not_false_eq_true]
  · obtain ⟨x1, x2, x3, x4, x5, x6⟩ := v1
    obtain ⟨y1, y2⟩ := v3
    obtain ⟨z1, z2, z3, z4, z5⟩ := v5
    obtain ⟨w1, w2, w3, w4⟩ := v7
    unfold zFC
    simp (disch := omega) only [zun, zun2, zus, v6, v4, v2, x1, x2, x3, x4, x5, y1, z1, z2, z3, z4, z5, w1, w2, w3, w4]
    exact ⟨⟨trivial, trivial, trivial⟩, x6, trivial, trivial, y2, trivial, ⟨trivial, trivial, trivial, trivial, trivial⟩, ⟨trivial, trivial, trivial, trivial⟩, trivial, trivial, trivial, trivial⟩
  · rw [zun (by omega), zun (by omega), zun (by omega), zun (by omega), v6 _ _ (by omega) (by omega), v4 _ _ (by omega), v2 _ _ (by omega) (by omega), f1 _ _ (by omega)]
