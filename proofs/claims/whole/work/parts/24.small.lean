/-! LINES, POSES, THE FLOOR'S CELLS, THE WEIGHT, TAPES: what takes no loop, or a short one -/
theorem e45 {M : zM} {X : zX} {r : Int} (h : zkd X r = (10, 0)) : zex 45 0 [] [(2, r)] M X = some ((9, 0), zu (zu M r 1 0) r 2 0, X) := by
  simp only [q45_0, h, ↓reduceIte, Int.reduceEq, Int.reduceLE, Int.reduceLT, Int.reduceAdd, Int.reduceSub, Int.reduceMul, Int.reduceNeg, zg_T, zbI_ok, zbL_ok, zbN_ok, zite1, zite2, zite3, zem, Int.cast_ofNat_Int, and_self, and_true, true_and, or_true, true_or, or_self, ite_not, if_true, if_false, not_true_eq_false, not_false_eq_true]
theorem e46 {M : zM} {X : zX} {r : Int} (h : zkd X r = (10, 0)) : zex 46 0 [] [(2, r)] M X = some ((0, if M r 1 < M r 2 then 0 else 1), M, X) := by
  simp only [q46_0, q46_8, h, ↓reduceIte, Int.reduceEq, Int.reduceLE, Int.reduceLT, Int.reduceAdd, Int.reduceSub, Int.reduceMul, Int.reduceNeg, zg_T, zbI_ok, zbL_ok, zbN_ok, zite1, zite2, zite3, zem, Int.cast_ofNat_Int, and_self, and_true, true_and, or_true, true_or, or_self, ite_not, if_true, if_false, not_true_eq_false, not_false_eq_true]
  by_cases e : M r 1 < M r 2 <;> simp only [e, ↓reduceIte, Int.reduceEq, Int.reduceLE, Int.reduceLT, Int.reduceAdd, Int.reduceSub, Int.reduceMul, Int.reduceNeg, zg_T, zbI_ok, zbL_ok, zbN_ok, zite1, zite2, zite3, zem, Int.cast_ofNat_Int, and_self, and_true, true_and, or_true, true_or, or_self, ite_not, if_true, if_false, not_true_eq_false, not_false_eq_true]
theorem e47 {M : zM} {X : zX} {r s : Int} (h : zkd X r = (10, 0)) (h1 : zkd X (r + 1) = (0, 2048)) (h2 : M r 0 = r + 1) (h0 : 0 < r) (h3 : 0 ≤ M r 2 ∧ M r 2 < 2048) : zex 47 0 [] [(2, r), (0, s)] M X = some ((9, 0), zu (zu M (r + 1) (M r 2) s) r 2 (M r 2 + 1), X) := by
  simp (disch := omega) only [q47_0, q47_18, h, h1, h2, zun, zg_pos, if_neg, zI, ↓reduceIte, Int.reduceEq, Int.reduceLE, Int.reduceLT, Int.reduceAdd, Int.reduceSub, Int.reduceMul, Int.reduceNeg, zg_T, zbI_ok, zbL_ok, zbN_ok, zite1, zite2, zite3, zem, Int.cast_ofNat_Int, and_self, and_true, true_and, or_true, true_or, or_self, ite_not, if_true, if_false, not_true_eq_false, not_false_eq_true]
theorem e48 {M : zM} {X : zX} {r : Int} (h : zkd X r = (10, 0)) (h1 : zkd X (r + 1) = (0, 2048)) (h2 : M r 0 = r + 1) (h0 : 0 < r) (h3 : 0 ≤ M r 1 ∧ M r 2 ≤ 2048) : zex 48 0 [] [(2, r)] M X = some ((0, if M r 1 < M r 2 then M (r + 1) (M r 1) else -1), M, X) := by
  simp only [q48_0, q48_10, e46 h, h, h1, h2, ↓reduceIte, Int.reduceEq, Int.reduceLE, Int.reduceLT, Int.reduceAdd, Int.reduceSub, Int.reduceMul, Int.reduceNeg, zg_T, zbI_ok, zbL_ok, zbN_ok, zite1, zite2, zite3, zem, Int.cast_ofNat_Int, and_self, and_true, true_and, or_true, true_or, or_self, ite_not, if_true, if_false, not_true_eq_false, not_false_eq_true]
  by_cases e : M r 1 < M r 2
  · simp (disch := omega) only [e, zg_pos, ↓reduceIte, Int.reduceEq, Int.reduceLE, Int.reduceLT, Int.reduceAdd, Int.reduceSub, Int.reduceMul, Int.reduceNeg, zg_T, zbI_ok, zbL_ok, zbN_ok, zite1, zite2, zite3, zem, Int.cast_ofNat_Int, and_self, and_true, true_and, or_true, true_or, or_self, ite_not, if_true, if_false, not_true_eq_false, not_false_eq_true]
  · simp only [e, ↓reduceIte, Int.reduceEq, Int.reduceLE, Int.reduceLT, Int.reduceAdd, Int.reduceSub, Int.reduceMul, Int.reduceNeg, zg_T, zbI_ok, zbL_ok, zbN_ok, zite1, zite2, zite3, zem, Int.cast_ofNat_Int, and_self, and_true, true_and, or_true, true_or, or_self, ite_not, if_true, if_false, not_true_eq_false, not_false_eq_true]
theorem e49 {M : zM} {X : zX} {r : Int} (h : zkd X r = (10, 0)) (h1 : zkd X (r + 1) = (0, 2048)) (h2 : M r 0 = r + 1) (h0 : 0 < r) (h3 : 0 ≤ M r 1) (h4 : M r 1 < M r 2) (h5 : M r 2 ≤ 2048) : zex 49 0 [] [(2, r)] M X = some ((0, M (r + 1) (M r 1)), zu M r 1 (M r 1 + 1), X) := by
  have e : M r 1 + 1 - 1 = M r 1 := by omega
  simp (disch := omega) only [q49_0, e46 h, h4, h, h1, h2, zun, zun2, zus, e, zg_pos, zI, ↓reduceIte, Int.reduceEq, Int.reduceLE, Int.reduceLT, Int.reduceAdd, Int.reduceSub, Int.reduceMul, Int.reduceNeg, zg_T, zbI_ok, zbL_ok, zbN_ok, zite1, zite2, zite3, zem, Int.cast_ofNat_Int, and_self, and_true, true_and, or_true, true_or, or_self, ite_not, if_true, if_false, not_true_eq_false, not_false_eq_true]
theorem e51 {M : zM} {X : zX} {r x y d : Int} (h : zkd X r = (11, 0)) (hx : 0 ≤ x ∧ x ≤ 31) (hy : 0 ≤ y ∧ y ≤ 31) : zex 51 0 [] [(2, r), (0, x), (0, y), (0, d)] M X = some ((9, 0), zu (zu (zu (zu (zu M r 0 (1000 * x + 500)) r 1 (1000 * y + 500)) r 2 d) r 3 0) r 4 0, X) := by
  simp (disch := omega) only [q51_0, q51_7, q51_14, q51_17, q51_20, q51_23, h, zg_pos, zI, ↓reduceIte, Int.reduceEq, Int.reduceLE, Int.reduceLT, Int.reduceAdd, Int.reduceSub, Int.reduceMul, Int.reduceNeg, zg_T, zbI_ok, zbL_ok, zbN_ok, zite1, zite2, zite3, zem, Int.cast_ofNat_Int, and_self, and_true, true_and, or_true, true_or, or_self, ite_not, if_true, if_false, not_true_eq_false, not_false_eq_true]
theorem e52 {M : zM} {X : zX} {r s : Int} (h : zkd X r = (11, 0)) (hs : zkd X s = (11, 0)) (hrs : s ≠ r) : zex 52 0 [] [(2, r), (2, s)] M X = some ((9, 0), zu (zu (zu (zu (zu M r 0 (M s 0)) r 1 (M s 1)) r 2 (M s 2)) r 3 (M s 3)) r 4 (M s 4), X) := by
  simp (disch := omega) only [q52_0, q52_4, q52_8, q52_12, q52_16, q52_20, h, hs, zun, zg_pos, zI, ↓reduceIte, Int.reduceEq, Int.reduceLE, Int.reduceLT, Int.reduceAdd, Int.reduceSub, Int.reduceMul, Int.reduceNeg, zg_T, zbI_ok, zbL_ok, zbN_ok, zite1, zite2, zite3, zem, Int.cast_ofNat_Int, and_self, and_true, true_and, or_true, true_or, or_self, ite_not, if_true, if_false, not_true_eq_false, not_false_eq_true]
theorem e53 {M : zM} {X : zX} {r : Int} (h : zkd X r = (11, 0)) (h0 : zI (M r 0)) : zex 53 0 [] [(2, r)] M X = some ((0, M r 0 / 1000), M, X) := by
  simp only [q53_0, h, e220 _ _ _ _ h0, ↓reduceIte, Int.reduceEq, Int.reduceLE, Int.reduceLT, Int.reduceAdd, Int.reduceSub, Int.reduceMul, Int.reduceNeg, zg_T, zbI_ok, zbL_ok, zbN_ok, zite1, zite2, zite3, zem, Int.cast_ofNat_Int, and_self, and_true, true_and, or_true, true_or, or_self, ite_not, if_true, if_false, not_true_eq_false, not_false_eq_true]
theorem e54 {M : zM} {X : zX} {r : Int} (h : zkd X r = (11, 0)) (h0 : zI (M r 1)) : zex 54 0 [] [(2, r)] M X = some ((0, M r 1 / 1000), M, X) := by
  simp only [q54_0, h, e220 _ _ _ _ h0, ↓reduceIte, Int.reduceEq, Int.reduceLE, Int.reduceLT, Int.reduceAdd, Int.reduceSub, Int.reduceMul, Int.reduceNeg, zg_T, zbI_ok, zbL_ok, zbN_ok, zite1, zite2, zite3, zem, Int.cast_ofNat_Int, and_self, and_true, true_and, or_true, true_or, or_self, ite_not, if_true, if_false, not_true_eq_false, not_false_eq_true]
theorem e55 {M : zM} {X : zX} {r w : Int} (h : zkd X r = (11, 0)) : zex 55 0 [] [(2, r), (0, w)] M X = some ((0, if w = 0 then M r 0 else if w = 1 then M r 1 else if w = 2 then M r 2 else if w = 3 then M r 3 else M r 4), M, X) := by
  simp only [q55_0, h, ↓reduceIte, Int.reduceEq, Int.reduceLE, Int.reduceLT, Int.reduceAdd, Int.reduceSub, Int.reduceMul, Int.reduceNeg, zg_T, zbI_ok, zbL_ok, zbN_ok, zite1, zite2, zite3, zem, Int.cast_ofNat_Int, and_self, and_true, true_and, or_true, true_or, or_self, ite_not, if_true, if_false, not_true_eq_false, not_false_eq_true]
  repeat' split
  all_goals rfl
theorem e40 {M : zM} {X : zX} {x y q : Int} (hx : 0 ≤ x ∧ x ≤ 31) (hy : 0 ≤ y ∧ y ≤ 31) : zex 40 0 [] [(0, x), (0, y), (0, q)] M X = some ((0, (y * 32 + x) * 2 + q % 2), M, X) := by
  simp (disch := omega) only [q40_0, zg_pos, zI, ↓reduceIte, Int.reduceEq, Int.reduceLE, Int.reduceLT, Int.reduceAdd, Int.reduceSub, Int.reduceMul, Int.reduceNeg, zg_T, zbI_ok, zbL_ok, zbN_ok, zite1, zite2, zite3, zem, Int.cast_ofNat_Int, and_self, and_true, true_and, or_true, true_or, or_self, ite_not, if_true, if_false, not_true_eq_false, not_false_eq_true]
theorem e36 {M : zM} {n m : Nat} {x y : Int} (h : zPC M) : zex 36 0 [] [(2, 18), (0, x), (0, y)] M (zKs, n, m) = some ((0, if (0 ≤ x ∧ x ≤ 31) ∧ (0 ≤ y ∧ y ≤ 31) ∧ M 19 (y * 32 + x) = 0 then 1 else 0), M, (zKs, n, m)) := by
  by_cases hx : (0 ≤ x ∧ x ≤ 31) ∧ 0 ≤ y ∧ y ≤ 31
  · obtain ⟨h1, h2⟩ := hx
    by_cases e : M 19 (y * 32 + x) = 0 <;> simp (disch := omega) only [q36_0, q36_21, q36_22, zp_18_0 h, zk_18, zk_19, e, h1, h2, if_neg, zg_pos, zI, ↓reduceIte, Int.reduceEq, Int.reduceLE, Int.reduceLT, Int.reduceAdd, Int.reduceSub, Int.reduceMul, Int.reduceNeg, zg_T, zbI_ok, zbL_ok, zbN_ok, zite1, zite2, zite3, zem, Int.cast_ofNat_Int, and_self, and_true, true_and, or_true, true_or, or_self, ite_not, if_true, if_false, not_true_eq_false, not_false_eq_true]
  · rw [if_neg (fun c => hx ⟨c.1, c.2.1⟩), q36_0]
    by_cases e1 : x < 0
    · simp only [e1, q36_21, q36_22, ↓reduceIte, Int.reduceEq, Int.reduceLE, Int.reduceLT, Int.reduceAdd, Int.reduceSub, Int.reduceMul, Int.reduceNeg, zg_T, zbI_ok, zbL_ok, zbN_ok, zite1, zite2, zite3, zem, Int.cast_ofNat_Int, and_self, and_true, true_and, or_true, true_or, or_self, ite_not, if_true, if_false, not_true_eq_false, not_false_eq_true]
    · by_cases e2 : 32 ≤ x
      · simp only [e1, e2, q36_21, q36_22, ↓reduceIte, Int.reduceEq, Int.reduceLE, Int.reduceLT, Int.reduceAdd, Int.reduceSub, Int.reduceMul, Int.reduceNeg, zg_T, zbI_ok, zbL_ok, zbN_ok, zite1, zite2, zite3, zem, Int.cast_ofNat_Int, and_self, and_true, true_and, or_true, true_or, or_self, ite_not, if_true, if_false, not_true_eq_false, not_false_eq_true]
      · by_cases e3 : y < 0
        · simp only [e1, e2, e3, q36_21, q36_22, ↓reduceIte, Int.reduceEq, Int.reduceLE, Int.reduceLT, Int.reduceAdd, Int.reduceSub, Int.reduceMul, Int.reduceNeg, zg_T, zbI_ok, zbL_ok, zbN_ok, zite1, zite2, zite3, zem, Int.cast_ofNat_Int, and_self, and_true, true_and, or_true, true_or, or_self, ite_not, if_true, if_false, not_true_eq_false, not_false_eq_true]
        · have e4 : 32 ≤ y := by omega
          simp only [e1, e2, e3, e4, q36_21, q36_22, ↓reduceIte, Int.reduceEq, Int.reduceLE, Int.reduceLT, Int.reduceAdd, Int.reduceSub, Int.reduceMul, Int.reduceNeg, zg_T, zbI_ok, zbL_ok, zbN_ok, zite1, zite2, zite3, zem, Int.cast_ofNat_Int, and_self, and_true, true_and, or_true, true_or, or_self, ite_not, if_true, if_false, not_true_eq_false, not_false_eq_true]
theorem e80 {M : zM} {n m : Nat} (h : zPC M) : zex 80 0 [] [(2, 25)] M (zKs, n, m) = some ((9, 0), zu (zu (zu (zu M 26 0 1) 25 1 1) 25 2 9) 25 3 2000, (zKs, n, m)) := by
  simp (disch := omega) only [q80_0, q80_5, q80_8, q80_11, q80_14, zp_25_0 h, zk_25, zk_26, zun, zg_pos, zI, ↓reduceIte, Int.reduceEq, Int.reduceLE, Int.reduceLT, Int.reduceAdd, Int.reduceSub, Int.reduceMul, Int.reduceNeg, zg_T, zbI_ok, zbL_ok, zbN_ok, zite1, zite2, zite3, zem, Int.cast_ofNat_Int, and_self, and_true, true_and, or_true, true_or, or_self, ite_not, if_true, if_false, not_true_eq_false, not_false_eq_true]
theorem e83 {M : zM} {n m : Nat} {t : Int} (h : zPC M) (h1 : 1 ≤ M 25 1 ∧ M 25 1 ≤ 30) (ht : 0 ≤ t) : zex 83 0 [] [(2, 25), (0, t)] M (zKs, n, m) = some ((0, M 26 (t % M 25 1)), M, (zKs, n, m)) := by
  have a1 : 0 ≤ t % M 25 1 := Int.emod_nonneg _ (by omega)
  have a2 : t % M 25 1 < M 25 1 := Int.emod_lt_of_pos _ (by omega)
  simp (disch := omega) only [q83_0, q83_14, zp_25_0 h, zk_25, zk_26, ztm_p, if_neg, zg_pos, zI, ↓reduceIte, Int.reduceEq, Int.reduceLE, Int.reduceLT, Int.reduceAdd, Int.reduceSub, Int.reduceMul, Int.reduceNeg, zg_T, zbI_ok, zbL_ok, zbN_ok, zite1, zite2, zite3, zem, Int.cast_ofNat_Int, and_self, and_true, true_and, or_true, true_or, or_self, ite_not, if_true, if_false, not_true_eq_false, not_false_eq_true]
theorem e75 {M : zM} {X : zX} {r : Int} (h : zkd X r = (14, 0)) : zex 75 0 [] [(2, r)] M X = some ((0, if M r 0 ≠ 0 ∧ M r 0 ≠ 5 then 1 else 0), M, X) := by
  simp only [q75_0, q75_9, q75_10, h, ↓reduceIte, Int.reduceEq, Int.reduceLE, Int.reduceLT, Int.reduceAdd, Int.reduceSub, Int.reduceMul, Int.reduceNeg, zg_T, zbI_ok, zbL_ok, zbN_ok, zite1, zite2, zite3, zem, Int.cast_ofNat_Int, and_self, and_true, true_and, or_true, true_or, or_self, ite_not, if_true, if_false, not_true_eq_false, not_false_eq_true]
  by_cases e1 : M r 0 = 0
  · simp only [e1, ne_eq, ↓reduceIte, Int.reduceEq, Int.reduceLE, Int.reduceLT, Int.reduceAdd, Int.reduceSub, Int.reduceMul, Int.reduceNeg, zg_T, zbI_ok, zbL_ok, zbN_ok, zite1, zite2, zite3, zem, Int.cast_ofNat_Int, and_self, and_true, true_and, or_true, true_or, or_self, ite_not, if_true, if_false, not_true_eq_false, not_false_eq_true]
  · by_cases e2 : M r 0 = 5 <;> simp only [e1, e2, ne_eq, ↓reduceIte, Int.reduceEq, Int.reduceLE, Int.reduceLT, Int.reduceAdd, Int.reduceSub, Int.reduceMul, Int.reduceNeg, zg_T, zbI_ok, zbL_ok, zbN_ok, zite1, zite2, zite3, zem, Int.cast_ofNat_Int, and_self, and_true, true_and, or_true, true_or, or_self, ite_not, if_true, if_false, not_true_eq_false, not_false_eq_true]
theorem e76 {M : zM} {X : zX} {r s n : Int} (h : zkd X r = (14, 0)) (h1 : zkd X (r + 1) = (1, 64)) (h2 : M r 2 = r + 1) (h0 : 0 < r) : zex 76 0 [] [(2, r), (0, s), (0, n)] M X = some ((9, 0), zfl (zu (zu M r 0 s) r 1 n) (r + 1) 64 0, X) := by
  have hf : ∀ (M : zM) (d d' : zV), zex 222 0 [] [(2, r + 1), (1, 0), (9, 0), d, d'] M X = some ((9, 0), zfl M (r + 1) 64 0, X) := fun M d d' => e222 (n := 64) h1 (by omega)
  simp (disch := omega) only [q76_0, h, h2, hf, zun2, zg_pos, ↓reduceIte, Int.reduceEq, Int.reduceLE, Int.reduceLT, Int.reduceAdd, Int.reduceSub, Int.reduceMul, Int.reduceNeg, zg_T, zbI_ok, zbL_ok, zbN_ok, zite1, zite2, zite3, zem, Int.cast_ofNat_Int, and_self, and_true, true_and, or_true, true_or, or_self, ite_not, if_true, if_false, not_true_eq_false, not_false_eq_true]
theorem e77 {M : zM} {X : zX} {r i n : Int} (h : zkd X r = (14, 0)) (h0 : 0 ≤ M r 1 ∧ M r 1 ≤ 64) : zex 77 0 [] [(2, r), (0, i), (0, n)] M X = some ((0, if 0 ≤ i ∧ 0 ≤ n ∧ n ≤ M r 1 ∧ i ≤ M r 1 - n then 1 else 0), M, X) := by
  rw [q77_0]
  by_cases e1 : i < 0
  · rw [if_pos e1, q77_16, q77_17, if_neg (by omega)]; rfl
  · rw [if_neg e1]
    by_cases e2 : n < 0
    · rw [if_pos e2, q77_16, q77_17, if_neg (by omega)]; rfl
    · rw [if_neg e2, zg_pos h]
      by_cases e3 : M r 1 < n
      · rw [if_pos e3, q77_16, q77_17, if_neg (by omega)]; rfl
      · rw [if_neg e3, zg_pos h, zg_pos (by unfold zI; omega)]
        by_cases e4 : M r 1 - n < i
        · rw [if_pos e4, q77_16, q77_17, if_neg (by omega)]; rfl
        · rw [if_neg e4, q77_17, if_pos (by omega)]; rfl
