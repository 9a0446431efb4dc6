/-! COUNT -/
theorem e219_l {P : zM} {n m : Nat} (r1 : zPR P) (hb : ∀ y, 0 ≤ y → y < 1024 → P 185 y = 0 ∨ P 185 y = 1) : ∀ (q : Nat) (i s : Int), 0 ≤ i → i + q = 1024 → 0 ≤ s → s ≤ i → zex 219 12 [] [(2, 178), (0, 2), (0, s), (0, i)] P (zKs, n, m) = some ((0, s + zsm (P 185) i q), P, (zKs, n, m))
  | 0, i, s, h2, h3, h4, h5 => by
    rw [q219_12, if_pos (by omega)]
    simp only [zsm, Int.add_zero]
  | q + 1, i, s, h2, h3, h4, h5 => by
    rw [q219_12]
    unfold zsm
    rcases hb i h2 (by omega) with e | e
    · simp (disch := omega) only [q219_24, zk_178, zk_185, zp_178_9 r1, e, zg_pos, if_neg, zI, Int.add_zero, Int.zero_add, ↓reduceIte, Int.reduceEq, Int.reduceLE, Int.reduceLT, Int.reduceAdd, Int.reduceSub, Int.reduceMul, Int.reduceNeg, zg_T, zbI_ok, zbL_ok, zbN_ok, zite1, zite2, zite3, zem, Int.cast_ofNat_Int, and_self, and_true, true_and, or_true, true_or, or_self, ite_not, if_true, if_false, not_true_eq_false, not_false_eq_true]
      rw [e219_l r1 hb q (i + 1) _ (by omega) (by omega) (by omega) (by omega)]
    · simp (disch := omega) only [q219_24, zk_178, zk_185, zp_178_9 r1, e, zg_pos, if_neg, zI, ↓reduceIte, Int.reduceEq, Int.reduceLE, Int.reduceLT, Int.reduceAdd, Int.reduceSub, Int.reduceMul, Int.reduceNeg, zg_T, zbI_ok, zbL_ok, zbN_ok, zite1, zite2, zite3, zem, Int.cast_ofNat_Int, and_self, and_true, true_and, or_true, true_or, or_self, ite_not, if_true, if_false, not_true_eq_false, not_false_eq_true]
      rw [e219_l r1 hb q (i + 1) _ (by omega) (by omega) (by omega) (by omega), Int.add_assoc]
/-- the gaps on both sides -/
theorem zga_un {M P : zM} (rc : zRc M 2 (P 179) (P 180) (P 181) (P 182)) : zga M 2 = zun0 P := by
  obtain ⟨a1, a2, a3, a4⟩ := rc 0 (by omega) (by omega)
  obtain ⟨b1, b2, b3, b4⟩ := rc 1 (by omega) (by omega)
  obtain ⟨c1, c2, c3, c4⟩ := rc 2 (by omega) (by omega)
  simp only [Int.mul_zero, Int.mul_one, Int.reduceMul, Int.reduceAdd, Int.add_zero, Int.zero_add] at a1 a4 b1 b4 c1 c4
  unfold zga zun0
  simp only [Int.reduceAdd]
  rw [a1, b1, c1]
  rw [zsm_congr (f := zgp (M 6)) (g := zgp (P 180)) (P 179 0).toNat 0 0 (fun k h1 h2 => by unfold zgp; rw [Int.zero_add, (a4 k h1 (by omega)).1]),
    zsm_congr (f := zgp (M 10)) (g := zgp (P 180)) (P 179 1).toNat 0 40 (fun k h1 h2 => by unfold zgp; rw [Int.zero_add, (b4 k h1 (by omega)).1]),
    zsm_congr (f := zgp (M 14)) (g := zgp (P 180)) (P 179 2).toNat 0 80 (fun k h1 h2 => by unfold zgp; rw [Int.zero_add, (c4 k h1 (by omega)).1])]
theorem zcnt {M P : zM} (rc : zRc M 2 (P 179) (P 180) (P 181) (P 182)) : (M 5 0 = P 179 0 ∧ 0 ≤ P 179 0 ∧ P 179 0 ≤ 40) ∧ (M 9 0 = P 179 1 ∧ 0 ≤ P 179 1 ∧ P 179 1 ≤ 40) ∧ M 13 0 = P 179 2 ∧ 0 ≤ P 179 2 ∧ P 179 2 ≤ 40 := by
  obtain ⟨a1, a2, a3, a4⟩ := rc 0 (by omega) (by omega)
  obtain ⟨b1, b2, b3, b4⟩ := rc 1 (by omega) (by omega)
  obtain ⟨c1, c2, c3, c4⟩ := rc 2 (by omega) (by omega)
  simp only [Int.mul_zero, Int.mul_one, Int.reduceMul, Int.reduceAdd, Int.add_zero] at a1 b1 c1
  exact ⟨⟨a1, a2, a3⟩, ⟨b1, b2, b3⟩, c1, c2, c3⟩
theorem o_count {q : Int} {M P : zM} (h : zRel q M P) (n m : Nat) (w : Int) : zOpn q 131 219 [(0, w)] [(0, w), (9, 0), (9, 0)] M P n m := by
  obtain ⟨⟨r0, r1⟩, rc, rh, rp, rb, rs, rw0, rx, ro, rk, rt, rr⟩ := id h
  obtain ⟨⟨a1, a2, a3⟩, ⟨b1, b2, b3⟩, c1, c2, c3⟩ := zcnt rc
  have k5 := e5 (d := (9, 0)) (d' := (9, 0)) (zCa2 r0 n m) (by simp only [Int.reduceAdd]; omega) (by simp only [Int.reduceAdd]; omega) (by simp only [Int.reduceAdd]; omega)
  have k6 := e6 (d := (9, 0)) (d' := (9, 0)) (zCa2 r0 n m) (by simp only [Int.reduceAdd]; omega) (by simp only [Int.reduceAdd]; omega) (by simp only [Int.reduceAdd]; omega)
  simp only [Int.reduceAdd, a1, b1, c1] at k5
  rw [zga_un rc] at k6
  have l5 := e209 (n := n) (m := m) r1 ⟨a2, a3⟩ ⟨b2, b3⟩ ⟨c2, c3⟩
  have l6 := e160 (n := n) (m := m) (d := (9, 0)) (d' := (9, 0)) (d'' := (9, 0)) r1 ⟨a2, a3⟩ ⟨b2, b3⟩ ⟨c2, c3⟩
  have l2 := e219_l (n := n) (m := m) r1 (fun y h1 h2 => (rb.1 y h1 h2).2) 1024 0 0 (by omega) (by omega) (by omega) (by omega)
  rw [Int.zero_add, ← rb.2] at l2
  refine ⟨if w = 0 then P 179 0 + P 179 1 + P 179 2 else if w = 1 then P 178 6 else if w = 2 then M 18 1 else if w = 3 then P 178 17 else if w = 4 then P 178 21 else if w = 5 then zun0 P else if w = 6 then P 178 25 else -1, M, P, ?_, zCf.rfl, ?_, zRf.rfl, h⟩
  · simp (disch := omega) only [q131_0, zk_1, zk_2, zk_18, zk_47, zk_65, zp_1_0 r0, zp_1_2 r0, zp_1_6 r0, zp_1_7 r0, k5, k6, rp.1, rx.1, ro.1, rr.1, zg_pos, ↓reduceIte, Int.reduceEq, Int.reduceLE, Int.reduceLT, Int.reduceAdd, Int.reduceSub, Int.reduceMul, Int.reduceNeg, zg_T, zbI_ok, zbL_ok, zbN_ok, zite1, zite2, zite3, zem, Int.cast_ofNat_Int, and_self, and_true, true_and, or_true, true_or, or_self, ite_not, if_true, if_false, not_true_eq_false, not_false_eq_true]
    repeat' split
    all_goals rfl
  · by_cases e : w = 2
    · subst e
      simp (disch := omega) only [q219_0, l2, ↓reduceIte, Int.reduceEq, Int.reduceLE, Int.reduceLT, Int.reduceAdd, Int.reduceSub, Int.reduceMul, Int.reduceNeg, zg_T, zbI_ok, zbL_ok, zbN_ok, zite1, zite2, zite3, zem, Int.cast_ofNat_Int, and_self, and_true, true_and, or_true, true_or, or_self, ite_not, if_true, if_false, not_true_eq_false, not_false_eq_true]
    · simp (disch := omega) only [q219_0, e, zk_178, l5, l6, zg_pos, ↓reduceIte, Int.reduceEq, Int.reduceLE, Int.reduceLT, Int.reduceAdd, Int.reduceSub, Int.reduceMul, Int.reduceNeg, zg_T, zbI_ok, zbL_ok, zbN_ok, zite1, zite2, zite3, zem, Int.cast_ofNat_Int, and_self, and_true, true_and, or_true, true_or, or_self, ite_not, if_true, if_false, not_true_eq_false, not_false_eq_true]
      repeat' split
      all_goals rfl
