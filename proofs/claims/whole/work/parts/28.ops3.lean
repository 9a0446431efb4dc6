/-! CALLS ON THE CORDS: cord, segment, wind; the counts -/
theorem e159_l {P : zM} {n m : Nat} {a : Int} (r1 : zPR P) (ha : 0 ≤ a ∧ a ≤ 2) (h1 : P 179 a ≤ 40) (hl : ∀ i, 0 ≤ i → i < P 179 a → 1 ≤ P 181 (40 * a + i) ∧ P 181 (40 * a + i) ≤ 200) : ∀ (q : Nat) (i s : Int), 0 ≤ i → i + q = P 179 a → 0 ≤ s → s ≤ 200 * i → zex 159 9 [] [(2, 178), (0, a), (0, s), (0, i)] P (zKs, n, m) = some ((0, s + zsm (P 181) (40 * a + i) q), P, (zKs, n, m))
  | 0, i, s, h2, h3, h4, h5 => by
    rw [q159_9]
    simp (disch := omega) only [zk_178, zk_179, zp_178_1 r1, zg_pos, if_pos, zsm, Int.add_zero, ↓reduceIte, Int.reduceEq, Int.reduceLE, Int.reduceLT, Int.reduceAdd, Int.reduceSub, Int.reduceMul, Int.reduceNeg, zg_T, zbI_ok, zbL_ok, zbN_ok, zite1, zite2, zite3, zem, Int.cast_ofNat_Int, and_self, and_true, true_and, or_true, true_or, or_self, ite_not, if_true, if_false, not_true_eq_false, not_false_eq_true]
  | q + 1, i, s, h2, h3, h4, h5 => by
    have := hl i h2 (by omega)
    rw [q159_9]
    simp (disch := omega) only [zk_178, zk_179, zk_181, zp_178_1 r1, zp_178_3 r1, zg_pos, if_neg, zI, ↓reduceIte, Int.reduceEq, Int.reduceLE, Int.reduceLT, Int.reduceAdd, Int.reduceSub, Int.reduceMul, Int.reduceNeg, zg_T, zbI_ok, zbL_ok, zbN_ok, zite1, zite2, zite3, zem, Int.cast_ofNat_Int, and_self, and_true, true_and, or_true, true_or, or_self, ite_not, if_true, if_false, not_true_eq_false, not_false_eq_true]
    rw [e159_l r1 ha h1 hl q (i + 1) _ (by omega) (by omega) (by omega) (by omega)]
    simp only [zsm, Int.add_assoc]
theorem o_cord {q : Int} {M P : zM} (h : zRel q M P) (n m : Nat) (a : Int) : zOpn q 103 159 [(0, a)] [(0, a), (9, 0), (9, 0)] M P n m := by
  obtain ⟨⟨r0, r1⟩, rc, rh, rp, rb, rs, rw0, rx, ro, rk, rt, rr⟩ := id h
  by_cases ha : 0 ≤ a ∧ a ≤ 2
  · obtain ⟨g1, g2, g3, g4⟩ := rc a ha.1 ha.2
    rw [show (2 : Int) + 3 + 4 * a = 5 + 4 * a by omega] at g1
    have gl : ∀ i, 0 ≤ i → i < P 179 a → M (5 + 4 * a + 2) i = P 181 (40 * a + i) ∧ 1 ≤ P 181 (40 * a + i) ∧ P 181 (40 * a + i) ≤ 200 := fun i hi hj => by
      obtain ⟨f1, f2, f3, f4, f5, f6, f7, f8, f9⟩ := g4 i hi hj
      rw [show (5 : Int) + 4 * a + 2 = 2 + 5 + 4 * a by omega]
      exact ⟨f2, f6, f7⟩
    have c1 := e12 (d := (9, 0)) (d' := (9, 0)) (zCd3 r0 n m ha) (by omega) (by omega) (fun i hi hj => by rw [g1] at hj; rw [(gl i hi hj).1]; exact (gl i hi hj).2)
    rw [g1] at c1
    have c2 := e159_l (n := n) (m := m) r1 ha g3 (fun i hi hj => (gl i hi hj).2) (P 179 a).toNat 0 0 (by omega) (by omega) (by omega) (by omega)
    rw [Int.zero_add] at c2
    have c3 : zsm (M (5 + 4 * a + 2)) 0 (P 179 a).toNat = zsm (P 181) (40 * a + 0) (P 179 a).toNat := zsm_congr _ _ _ (fun k hk hn => by rw [Int.zero_add, Int.add_zero]; exact (gl k hk (by omega)).1)
    refine ⟨zsm (P 181) (40 * a + 0) (P 179 a).toNat, M, P, ?_, zCf.rfl, ?_, zRf.rfl, h⟩
    · simp (disch := omega) only [q103_0, q103_11, e134, ha, zk_1, zk_2, zk_3, zp_1_0 r0, zp_2_0 r0, zrp3 r0 ha, zrk3 n m ha, c1, c3, zg_pos, ↓reduceIte, Int.reduceEq, Int.reduceLE, Int.reduceLT, Int.reduceAdd, Int.reduceSub, Int.reduceMul, Int.reduceNeg, zg_T, zbI_ok, zbL_ok, zbN_ok, zite1, zite2, zite3, zem, Int.cast_ofNat_Int, and_self, and_true, true_and, or_true, true_or, or_self, ite_not, if_true, if_false, not_true_eq_false, not_false_eq_true]
    · simp (disch := omega) only [q159_0, e146, ha, c2, zg_pos, ↓reduceIte, Int.reduceEq, Int.reduceLE, Int.reduceLT, Int.reduceAdd, Int.reduceSub, Int.reduceMul, Int.reduceNeg, zg_T, zbI_ok, zbL_ok, zbN_ok, zite1, zite2, zite3, zem, Int.cast_ofNat_Int, and_self, and_true, true_and, or_true, true_or, or_self, ite_not, if_true, if_false, not_true_eq_false, not_false_eq_true]
  · refine ⟨-1, M, P, ?_, zCf.rfl, ?_, zRf.rfl, h⟩
    · simp only [q103_0, q103_11, e134, ha, ↓reduceIte, Int.reduceEq, Int.reduceLE, Int.reduceLT, Int.reduceAdd, Int.reduceSub, Int.reduceMul, Int.reduceNeg, zg_T, zbI_ok, zbL_ok, zbN_ok, zite1, zite2, zite3, zem, Int.cast_ofNat_Int, and_self, and_true, true_and, or_true, true_or, or_self, ite_not, if_true, if_false, not_true_eq_false, not_false_eq_true]
    · simp only [q159_0, e146, ha, ↓reduceIte, Int.reduceEq, Int.reduceLE, Int.reduceLT, Int.reduceAdd, Int.reduceSub, Int.reduceMul, Int.reduceNeg, zg_T, zbI_ok, zbL_ok, zbN_ok, zite1, zite2, zite3, zem, Int.cast_ofNat_Int, and_self, and_true, true_and, or_true, true_or, or_self, ite_not, if_true, if_false, not_true_eq_false, not_false_eq_true]
theorem o_segment {q : Int} {M P : zM} (h : zRel q M P) (n m : Nat) (a i w : Int) : zOpn q 95 149 [(0, a), (0, i), (0, w), (9, 0)] [(0, a), (0, i), (0, w), (9, 0)] M P n m := by
  obtain ⟨⟨r0, r1⟩, rc, rh, rp, rb, rs, rw0, rx, ro, rk, rt, rr⟩ := id h
  by_cases ha : 0 ≤ a ∧ a ≤ 2
  · obtain ⟨g1, g2, g3, g4⟩ := rc a ha.1 ha.2
    rw [show (2 : Int) + 3 + 4 * a = 5 + 4 * a by omega] at g1
    obtain ⟨d0, d1, d2, d3, d4, d5, d6, d7⟩ := zCd3 r0 n m ha
    have c1 := e9 (M := M) (i := i) d1
    rw [g1] at c1
    by_cases hi : 0 ≤ i ∧ i < P 179 a
    · obtain ⟨f1, f2, f3, -⟩ := g4 i hi.1 hi.2
      rw [show (2 : Int) + 4 + 4 * a = 5 + 4 * a + 1 by omega] at f1
      rw [show (2 : Int) + 5 + 4 * a = 5 + 4 * a + 2 by omega] at f2
      rw [show (2 : Int) + 6 + 4 * a = 5 + 4 * a + 3 by omega] at f3
      refine ⟨if w = 0 then P 180 (40 * a + i) else if w = 1 then P 181 (40 * a + i) else if w = 2 then P 182 (40 * a + i) else -1, M, P, ?_, zCf.rfl, ?_, zRf.rfl, h⟩
      · simp (disch := omega) only [q95_0, q95_11, e134, ha, zk_1, zk_2, zk_3, zp_1_0 r0, zp_2_0 r0, zrp3 r0 ha, c1, hi, d1, d2, d3, d4, d5, d6, d7, f1, f2, f3, zg_pos, ↓reduceIte, Int.reduceEq, Int.reduceLE, Int.reduceLT, Int.reduceAdd, Int.reduceSub, Int.reduceMul, Int.reduceNeg, zg_T, zbI_ok, zbL_ok, zbN_ok, zite1, zite2, zite3, zem, Int.cast_ofNat_Int, and_self, and_true, true_and, or_true, true_or, or_self, ite_not, if_true, if_false, not_true_eq_false, not_false_eq_true]
        repeat' split
        all_goals rfl
      · have e : i ≤ P 179 a - 1 := by omega
        simp (disch := omega) only [q149_0, q149_13, q149_45, e146, e143, ha, hi, e, zk_178, zk_179, zk_180, zk_181, zk_182, zp_178_1 r1, zp_178_2 r1, zp_178_3 r1, zp_178_4 r1, zg_pos, zI, ↓reduceIte, Int.reduceEq, Int.reduceLE, Int.reduceLT, Int.reduceAdd, Int.reduceSub, Int.reduceMul, Int.reduceNeg, zg_T, zbI_ok, zbL_ok, zbN_ok, zite1, zite2, zite3, zem, Int.cast_ofNat_Int, and_self, and_true, true_and, or_true, true_or, or_self, ite_not, if_true, if_false, not_true_eq_false, not_false_eq_true]
        repeat' split
        all_goals rfl
    · refine ⟨-1, M, P, ?_, zCf.rfl, ?_, zRf.rfl, h⟩
      · simp (disch := omega) only [q95_0, q95_11, e134, ha, zk_1, zk_2, zk_3, zp_1_0 r0, zp_2_0 r0, zrp3 r0 ha, c1, hi, d1, zg_pos, ↓reduceIte, Int.reduceEq, Int.reduceLE, Int.reduceLT, Int.reduceAdd, Int.reduceSub, Int.reduceMul, Int.reduceNeg, zg_T, zbI_ok, zbL_ok, zbN_ok, zite1, zite2, zite3, zem, Int.cast_ofNat_Int, and_self, and_true, true_and, or_true, true_or, or_self, ite_not, if_true, if_false, not_true_eq_false, not_false_eq_true]
      · have e : ¬ (0 ≤ i ∧ i ≤ P 179 a - 1) := by omega
        simp (disch := omega) only [q149_0, q149_13, e146, e143, ha, e, zk_178, zk_179, zp_178_1 r1, zg_pos, zI, ↓reduceIte, Int.reduceEq, Int.reduceLE, Int.reduceLT, Int.reduceAdd, Int.reduceSub, Int.reduceMul, Int.reduceNeg, zg_T, zbI_ok, zbL_ok, zbN_ok, zite1, zite2, zite3, zem, Int.cast_ofNat_Int, and_self, and_true, true_and, or_true, true_or, or_self, ite_not, if_true, if_false, not_true_eq_false, not_false_eq_true]
  · refine ⟨-1, M, P, ?_, zCf.rfl, ?_, zRf.rfl, h⟩
    · simp only [q95_0, q95_11, e134, ha, ↓reduceIte, Int.reduceEq, Int.reduceLE, Int.reduceLT, Int.reduceAdd, Int.reduceSub, Int.reduceMul, Int.reduceNeg, zg_T, zbI_ok, zbL_ok, zbN_ok, zite1, zite2, zite3, zem, Int.cast_ofNat_Int, and_self, and_true, true_and, or_true, true_or, or_self, ite_not, if_true, if_false, not_true_eq_false, not_false_eq_true]
    · simp only [q149_0, q149_13, e146, ha, ↓reduceIte, Int.reduceEq, Int.reduceLE, Int.reduceLT, Int.reduceAdd, Int.reduceSub, Int.reduceMul, Int.reduceNeg, zg_T, zbI_ok, zbL_ok, zbN_ok, zite1, zite2, zite3, zem, Int.cast_ofNat_Int, and_self, and_true, true_and, or_true, true_or, or_self, ite_not, if_true, if_false, not_true_eq_false, not_false_eq_true]
theorem e209 {P : zM} {n m : Nat} (r1 : zPR P) (h0 : 0 ≤ P 179 0 ∧ P 179 0 ≤ 40) (h1 : 0 ≤ P 179 1 ∧ P 179 1 ≤ 40) (h2 : 0 ≤ P 179 2 ∧ P 179 2 ≤ 40) : zex 209 0 [] [(2, 178)] P (zKs, n, m) = some ((0, P 179 0 + P 179 1 + P 179 2), P, (zKs, n, m)) := by
  simp (disch := omega) only [q209_0, zk_178, zk_179, zp_178_1 r1, zg_pos, zI, ↓reduceIte, Int.reduceEq, Int.reduceLE, Int.reduceLT, Int.reduceAdd, Int.reduceSub, Int.reduceMul, Int.reduceNeg, zg_T, zbI_ok, zbL_ok, zbN_ok, zite1, zite2, zite3, zem, Int.cast_ofNat_Int, and_self, and_true, true_and, or_true, true_or, or_self, ite_not, if_true, if_false, not_true_eq_false, not_false_eq_true]
/-- the reference's gaps -/
def zun0 (P : zM) : Int := zsm (zgp (P 180)) 0 (P 179 0).toNat + zsm (zgp (P 180)) 40 (P 179 1).toNat + zsm (zgp (P 180)) 80 (P 179 2).toNat
theorem e160_l {P : zM} {n m : Nat} {a : Int} (r1 : zPR P) (ha : 0 ≤ a ∧ a ≤ 2) (h1 : P 179 a ≤ 40) : ∀ (q : Nat) (i s : Int), 0 ≤ i → i + q = P 179 a → 0 ≤ s → s ≤ 40 * a + i → zex 160 9 [] [(2, 178), (0, s), (0, a), (0, i)] P (zKs, n, m) = zex 160 4 [] [(2, 178), (0, s + zsm (zgp (P 180)) (40 * a + i) q), (0, a + 1), (0, P 179 a)] P (zKs, n, m)
  | 0, i, s, h2, h3, h4, h5 => by
    rw [q160_9]
    have e : i = P 179 a := by omega
    simp (disch := omega) only [zk_178, zk_179, zp_178_1 r1, zg_pos, if_pos, zI, zsm, Int.add_zero, e, ↓reduceIte, Int.reduceEq, Int.reduceLE, Int.reduceLT, Int.reduceAdd, Int.reduceSub, Int.reduceMul, Int.reduceNeg, zg_T, zbI_ok, zbL_ok, zbN_ok, zite1, zite2, zite3, zem, Int.cast_ofNat_Int, and_self, and_true, true_and, or_true, true_or, or_self, ite_not, if_true, if_false, not_true_eq_false, not_false_eq_true]
  | q + 1, i, s, h2, h3, h4, h5 => by
    rw [q160_9]
    simp (disch := omega) only [q160_29, zk_178, zk_179, zk_180, zp_178_1 r1, zp_178_2 r1, zg_pos, if_neg, zI, ↓reduceIte, Int.reduceEq, Int.reduceLE, Int.reduceLT, Int.reduceAdd, Int.reduceSub, Int.reduceMul, Int.reduceNeg, zg_T, zbI_ok, zbL_ok, zbN_ok, zite1, zite2, zite3, zem, Int.cast_ofNat_Int, and_self, and_true, true_and, or_true, true_or, or_self, ite_not, if_true, if_false, not_true_eq_false, not_false_eq_true]
    unfold zsm
    by_cases e : P 180 (40 * a + i) = 3
    · rw [if_pos e, e160_l r1 ha h1 q (i + 1) _ (by omega) (by omega) (by omega) (by omega), show zgp (P 180) (40 * a + i) = 1 from if_pos e]
      simp only [Int.add_assoc]
    · rw [if_neg e, e160_l r1 ha h1 q (i + 1) _ (by omega) (by omega) (by omega) (by omega), show zgp (P 180) (40 * a + i) = 0 from if_neg e]
      simp only [Int.add_assoc, Int.add_zero, Int.zero_add]
