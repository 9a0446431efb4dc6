/-! BEGIN -/
/-- how the class and the reference are at first -/
def zFC (M : zM) : Prop := (M 5 0 = 0 ∧ M 9 0 = 0 ∧ M 13 0 = 0) ∧ (∀ y, 0 ≤ y → y ≤ 800 → M 4 y = 0) ∧ M 2 2 = 0 ∧ M 2 3 = 2 ∧ (∀ y, 0 ≤ y → y < 1024 → M 19 y = 0) ∧ M 18 1 = 0 ∧ (M 17 0 = 500 ∧ M 17 1 = 500 ∧ M 17 2 = 0 ∧ M 17 3 = 0 ∧ M 17 4 = 0) ∧ (M 26 0 = 1 ∧ M 25 1 = 1 ∧ M 25 2 = 9 ∧ M 25 3 = 2000) ∧ M 47 1 = 0 ∧ M 65 2 = 0 ∧ M 36 0 = 0 ∧ M 1 9 = 0
def zFR (P : zM) : Prop := (P 179 0 = 0 ∧ P 179 1 = 0 ∧ P 179 2 = 0) ∧ P 178 5 = 2 ∧ P 178 6 = 0 ∧ (∀ y, 0 ≤ y → y < 1024 → P 185 y = 0) ∧ (P 178 10 = 0 ∧ P 178 11 = 0 ∧ P 178 12 = 0) ∧ (P 178 13 = 1 ∧ P 186 0 = 1 ∧ P 178 15 = 9 ∧ P 178 16 = 2000) ∧ P 178 17 = 0 ∧ P 178 21 = 0 ∧ P 178 25 = 0 ∧ P 178 26 = 0
theorem zsm_0 {f : Int → Int} : ∀ (n : Nat) (i : Int), (∀ k, i ≤ k → k < i + n → f k = 0) → zsm f i n = 0
  | 0, _, _ => rfl
  | n + 1, i, h => by
    unfold zsm
    rw [h i (by omega) (by omega), zsm_0 n (i + 1) (fun k a b => h k (by omega) (by omega))]
    rfl
theorem zRel_fresh {M P : zM} (r0 : zPC M) (r1 : zPR P) (hM : zFC M) (hP : zFR P) (rt : zRt M P) : zRel 0 M P := by
  obtain ⟨⟨a1, a2, a3⟩, a4, a5, a6, a7, a8, ⟨a9, a10, a11, a12, a13⟩, ⟨a14, a15, a16, a17⟩, a18, a19, a20, a21⟩ := hM
  obtain ⟨⟨b1, b2, b3⟩, b5, b6, b7, ⟨b9, b10, b11⟩, ⟨b14, b15, b16, b17⟩, b18, b19, b20, b21⟩ := hP
  refine ⟨⟨r0, r1⟩, ?_, ?_, ?_, ?_, ?_, ?_, ?_, ?_, ?_, rt, ?_⟩
  · intro a h0 h2
    rcases (by omega : a = 0 ∨ a = 1 ∨ a = 2) with rfl | rfl | rfl
    · exact ⟨by rw [b1]; exact a1, by rw [b1]; omega, by rw [b1]; omega, fun i i0 i1 => by rw [b1] at i1; omega⟩
    · exact ⟨by rw [b2]; exact a2, by rw [b2]; omega, by rw [b2]; omega, fun i i0 i1 => by rw [b2] at i1; omega⟩
    · exact ⟨by rw [b3]; exact a3, by rw [b3]; omega, by rw [b3]; omega, fun i i0 i1 => by rw [b3] at i1; omega⟩
  · rw [b5, a6]; omega
  · refine ⟨by rw [a5, b6], by omega, by omega, fun j j0 j1 => by omega, fun i j i0 ij j1 => by omega, fun y y0 y1 hy => ?_⟩
    exact absurd (a4 y y0 y1) hy
  · refine ⟨fun y y0 y1 => ⟨by rw [a7 y y0 y1, b7 y y0 y1], .inl (b7 y y0 y1)⟩, ?_⟩
    rw [a8, zsm_0 1024 0 (fun k k0 k1 => b7 k k0 (by omega))]
  · unfold zRs
    rw [a9, a10, a11, a12, a13, b9, b10, b11]
    omega
  · unfold zRw
    rw [a15, a16, a17, b14, b16, b17]
    refine ⟨rfl, by omega, rfl, by omega, rfl, by omega, fun i i0 i1 => ?_⟩
    rw [show i = 0 by omega, a14, b15]
    omega
  · exact ⟨by rw [a18, b18], by omega, fun i i0 i1 => by omega⟩
  · exact ⟨by rw [a19, b19], by omega, fun i i0 i1 => by omega, fun i j i0 ij j1 => by omega⟩
  · exact ⟨by rw [a20, b21], by omega, fun c => by omega⟩
  · omega
theorem e34_l {M : zM} {n m : Nat} (r0 : zPC M) : ∀ (q : Nat) (i : Int), 0 ≤ i → i + q = 1024 → zex 34 2 [] [(2, 18), (0, i)] (zfl M 19 i 0) (zKs, n, m) = some ((9, 0), zu (zfl M 19 1024 0) 18 1 0, (zKs, n, m))
  | 0, i, h0, h1 => by
    rw [q34_2, if_pos (by omega), zg_pos (zk_18 n m), show i = 1024 by omega]
  | q + 1, i, h0, h1 => by
    rw [← e34_l (n := n) (m := m) r0 q (i + 1) (by omega) (by omega), q34_2]
    simp (disch := omega) only [zk_18, zk_19, zfl_r, zp_18_0 r0, zfl_s, zg_pos, if_neg, zI, ↓reduceIte, Int.reduceEq, Int.reduceLE, Int.reduceLT, Int.reduceAdd, Int.reduceSub, Int.reduceMul, Int.reduceNeg, zg_T, zbI_ok, zbL_ok, zbN_ok, zite1, zite2, zite3, zem, Int.cast_ofNat_Int, and_self, and_true, true_and, or_true, true_or, or_self, ite_not, if_true, if_false, not_true_eq_false, not_false_eq_true]
theorem e132 {M : zM} {n m : Nat} (r0 : zPC M) : ∃ M', zex 132 0 [] [(2, 1)] M (zKs, n, m) = some ((9, 0), M', (zKs, n, m)) ∧ zFC M' ∧ zPC M' ∧ (∀ r y, (r < 1 ∨ 65 < r) → M' r y = M r y) := by
  have c1 := e1 (d := (9, 0)) (zCa2 r0 n m)
  have f1 : ∀ r y, (r ≠ 2 ∧ r ≠ 4 ∧ r ≠ 5 ∧ r ≠ 9 ∧ r ≠ 13) ∨ (r = 2 ∧ y < 2) ∨ (r = 5 ∧ y ≠ 0) ∨ (r = 9 ∧ y ≠ 0) ∨ (r = 13 ∧ y ≠ 0) → zst M 2 r y = M r y := fun r y hr => by
    unfold zst
    simp only [Int.reduceAdd]
    by_cases e : r = 2
    · subst e
      rw [zun2 (by omega), zun2 (by omega), zfl_r (by omega), zun (by omega), zun (by omega), zun (by omega)]
    · rw [zun e, zun e, zfl_r (by omega)]
      by_cases e1 : y = 0
      · rw [zun (by omega), zun (by omega), zun (by omega)]
      · rw [zun2 e1, zun2 e1, zun2 e1]
  have v1 : zst M 2 2 2 = 0 ∧ zst M 2 2 3 = 2 ∧ zst M 2 5 0 = 0 ∧ zst M 2 9 0 = 0 ∧ zst M 2 13 0 = 0 ∧ ∀ y, 0 ≤ y → y ≤ 800 → zst M 2 4 y = 0 := by
    unfold zst
    simp only [Int.reduceAdd]
    refine ⟨by rw [zun2 (by omega), zus], by rw [zus], ?_, ?_, ?_, fun y y0 y1 => ?_⟩
    · rw [zun (by omega), zun (by omega), zfl_r (by omega), zun (by omega), zun (by omega), zus]
    · rw [zun (by omega), zun (by omega), zfl_r (by omega), zun (by omega), zus]
    · rw [zun (by omega), zun (by omega), zfl_r (by omega), zus]
    · rw [zun (by omega), zun (by omega), zfl_in (by omega)]
  generalize zst M 2 = M1 at c1 f1 v1
  have k1 : zPC M1 := zPC_t (fun r y => (decide (r = 2) && decide (2 ≤ y)) || decide (r = 4) || (decide (r = 5 ∨ r = 9 ∨ r = 13) && decide (y = 0))) (by decide +kernel) r0 (fun r y hr => f1 r y (by simp at hr; omega))
  have c2 := e34_l (n := n) (m := m) k1 1024 0 (by omega) (by omega)
  rw [zfl_0] at c2
  have k2 : zPC (zu (zfl M1 19 1024 0) 18 1 0) := zPC_zu (zPC_t (fun r y => decide (r = 19)) (by decide +kernel) k1 (fun r y hr => zfl_r (by simpa using hr))) (by decide +kernel)
  have v2 : ∀ r y, r ≠ 19 → (r ≠ 18 ∨ y ≠ 1) → zu (zfl M1 19 1024 0) 18 1 0 r y = M1 r y := fun r y h1 h2 => by
    by_cases e : r = 18
    · rw [zun2 (by omega), zfl_r h1]
    · rw [zun e, zfl_r h1]
  have v3 : zu (zfl M1 19 1024 0) 18 1 0 18 1 = 0 ∧ ∀ y, 0 ≤ y → y < 1024 → zu (zfl M1 19 1024 0) 18 1 0 19 y = 0 := ⟨zus, fun y y0 y1 => by rw [zun (by omega), zfl_in (by omega)]⟩
  generalize zu (zfl M1 19 1024 0) 18 1 0 = M2 at c2 k2 v2 v3
  have k3 : zPC (zu (zu (zu (zu (zu M2 17 0 (1000 * 0 + 500)) 17 1 (1000 * 0 + 500)) 17 2 0) 17 3 0) 17 4 0) := zPC_zu (zPC_zu (zPC_zu (zPC_zu (zPC_zu k2 (by decide +kernel)) (by decide +kernel)) (by decide +kernel)) (by decide +kernel)) (by decide +kernel)
  have c3 := e51 (M := M2) (x := 0) (y := 0) (d := 0) (zk_17 n m) (by omega) (by omega)
  have v4 : ∀ r y, r ≠ 17 → zu (zu (zu (zu (zu M2 17 0 (1000 * 0 + 500)) 17 1 (1000 * 0 + 500)) 17 2 0) 17 3 0) 17 4 0 r y = M2 r y := fun r y h1 => by rw [zun h1, zun h1, zun h1, zun h1, zun h1]
  have v5 : zu (zu (zu (zu (zu M2 17 0 (1000 * 0 + 500)) 17 1 (1000 * 0 + 500)) 17 2 0) 17 3 0) 17 4 0 17 0 = 500 ∧ zu (zu (zu (zu (zu M2 17 0 (1000 * 0 + 500)) 17 1 (1000 * 0 + 500)) 17 2 0) 17 3 0) 17 4 0 17 1 = 500 ∧ zu (zu (zu (zu (zu M2 17 0 (1000 * 0 + 500)) 17 1 (1000 * 0 + 500)) 17 2 0) 17 3 0) 17 4 0 17 2 = 0 ∧ zu (zu (zu (zu (zu M2 17 0 (1000 * 0 + 500)) 17 1 (1000 * 0 + 500)) 17 2 0) 17 3 0) 17 4 0 17 3 = 0 ∧ zu (zu (zu (zu (zu M2 17 0 (1000 * 0 + 500)) 17 1 (1000 * 0 + 500)) 17 2 0) 17 3 0) 17 4 0 17 4 = 0 := by
    simp (disch := omega) only [zun2, zus, Int.reduceMul, Int.reduceAdd]
    exact ⟨trivial, trivial, trivial, trivial, trivial⟩
  generalize zu (zu (zu (zu (zu M2 17 0 (1000 * 0 + 500)) 17 1 (1000 * 0 + 500)) 17 2 0) 17 3 0) 17 4 0 = M3 at c3 k3 v4 v5
  have c4 := e80 (n := n) (m := m) k3
  have k4 : zPC (zu (zu (zu (zu M3 26 0 1) 25 1 1) 25 2 9) 25 3 2000) := zPC_zu (zPC_zu (zPC_zu (zPC_zu k3 (by decide +kernel)) (by decide +kernel)) (by decide +kernel)) (by decide +kernel)
  have v6 : ∀ r y, r ≠ 26 → r ≠ 25 → zu (zu (zu (zu M3 26 0 1) 25 1 1) 25 2 9) 25 3 2000 r y = M3 r y := fun r y h1 h2 => by rw [zun h2, zun h2, zun h2, zun h1]
  have v7 : zu (zu (zu (zu M3 26 0 1) 25 1 1) 25 2 9) 25 3 2000 26 0 = 1 ∧ zu (zu (zu (zu M3 26 0 1) 25 1 1) 25 2 9) 25 3 2000 25 1 = 1 ∧ zu (zu (zu (zu M3 26 0 1) 25 1 1) 25 2 9) 25 3 2000 25 2 = 9 ∧ zu (zu (zu (zu M3 26 0 1) 25 1 1) 25 2 9) 25 3 2000 25 3 = 2000 := by
    simp (disch := omega) only [zun, zun2, zus]
    exact ⟨trivial, trivial, trivial, trivial⟩
  generalize zu (zu (zu (zu M3 26 0 1) 25 1 1) 25 2 9) 25 3 2000 = M4 at c4 k4 v6 v7
  refine ⟨zu (zu (zu (zu M4 47 1 0) 65 2 0) 36 0 0) 1 9 0, ?_, ?_, zPC_zu (zPC_zu (zPC_zu (zPC_zu k4 (by decide +kernel)) (by decide +kernel)) (by decide +kernel)) (by decide +kernel), fun r y hr => ?_⟩
  · simp (disch := omega) only [q132_0, q132_19, q132_23, q132_27, q132_30, c1, c2, c3, c4, q34_0, zk_1, zk_2, zk_17, zk_18, zk_25, zk_36, zk_47, zk_65, zp_1_0 r0, zp_1_2 k1, zp_1_1 k2, zp_1_3 k3, zp_1_5 k4, zp_1_6 k4, zp_1_7 k4, zun, zg_pos, ↓reduceIte, Int.reduceEq, Int.reduceLE, Int.reduceLT, Int.reduceAdd, Int.reduceSub, Int.reduceMul, Int.reduceNeg, zg_T, zbI_ok, zbL_ok, zbN_ok, zite1, zite2, zite3, zem, Int.cast_ofNat_Int, and_self, and_true, true_and, or_true, true_or, or_self, ite_not, if_true, if_false, not_true_eq_false, not_false_eq_true]
  · obtain ⟨x1, x2, x3, x4, x5, x6⟩ := v1
    obtain ⟨y1, y2⟩ := v3
    obtain ⟨z1, z2, z3, z4, z5⟩ := v5
    obtain ⟨w1, w2, w3, w4⟩ := v7
    unfold zFC
    simp (disch := omega) only [zun, zun2, zus, v6, v4, v2, x1, x2, x3, x4, x5, y1, z1, z2, z3, z4, z5, w1, w2, w3, w4]
    exact ⟨⟨trivial, trivial, trivial⟩, x6, trivial, trivial, y2, trivial, ⟨trivial, trivial, trivial, trivial, trivial⟩, ⟨trivial, trivial, trivial, trivial⟩, trivial, trivial, trivial, trivial⟩
  · rw [zun (by omega), zun (by omega), zun (by omega), zun (by omega), v6 _ _ (by omega) (by omega), v4 _ _ (by omega), v2 _ _ (by omega) (by omega), f1 _ _ (by omega)]
theorem e145_l {P : zM} {n m : Nat} (r1 : zPR P) : ∀ (q : Nat) (i : Int), 0 ≤ i → i + q = 1024 → zex 145 14 [] [(2, 178), (0, i)] (zfl P 185 i 0) (zKs, n, m) = zex 145 14 [] [(2, 178), (0, 1024)] (zfl P 185 1024 0) (zKs, n, m)
  | 0, i, h0, h1 => by
    rw [show i = 1024 by omega]
  | q + 1, i, h0, h1 => by
    rw [← e145_l (n := n) (m := m) r1 q (i + 1) (by omega) (by omega), q145_14]
    simp (disch := omega) only [q145_22, zk_178, zk_185, zfl_r, zp_178_9 r1, zfl_s, zg_pos, if_neg, zI, ↓reduceIte, Int.reduceEq, Int.reduceLE, Int.reduceLT, Int.reduceAdd, Int.reduceSub, Int.reduceMul, Int.reduceNeg, zg_T, zbI_ok, zbL_ok, zbN_ok, zite1, zite2, zite3, zem, Int.cast_ofNat_Int, and_self, and_true, true_and, or_true, true_or, or_self, ite_not, if_true, if_false, not_true_eq_false, not_false_eq_true]
theorem e145 {P : zM} (r1 : zPR P) : ∃ P', (∀ n m, zex 145 0 [] [(2, 178), (9, 0)] P (zKs, n, m) = some ((0, 0), P', (zKs, n, m))) ∧ zFR P' ∧ zPR P' ∧ (∀ r y, (r < 178 ∨ (186 < r)) → P' r y = P r y) := by
  have k1 : zPR (zu (zu (zu P 179 0 0) 179 1 0) 179 2 0) := zPR_zu (zPR_zu (zPR_zu r1 (zPR_row (by decide +kernel))) (zPR_row (by decide +kernel))) (zPR_row (by decide +kernel))
  have c1 : ∀ n m, zex 145 0 [] [(2, 178), (9, 0)] P (zKs, n, m) = zex 145 14 [] [(2, 178), (0, 0)] (zu (zu (zu P 179 0 0) 179 1 0) 179 2 0) (zKs, n, m) := fun n m => by
    simp (disch := omega) only [q145_0, q145_2, q145_10, zk_178, zk_179, zp_178_1 r1, zun, zg_pos, zI, ↓reduceIte, Int.reduceEq, Int.reduceLE, Int.reduceLT, Int.reduceAdd, Int.reduceSub, Int.reduceMul, Int.reduceNeg, zg_T, zbI_ok, zbL_ok, zbN_ok, zite1, zite2, zite3, zem, Int.cast_ofNat_Int, and_self, and_true, true_and, or_true, true_or, or_self, ite_not, if_true, if_false, not_true_eq_false, not_false_eq_true]
  have f1 : ∀ r y, r ≠ 179 → zu (zu (zu P 179 0 0) 179 1 0) 179 2 0 r y = P r y := fun r y h => by rw [zun h, zun h, zun h]
  have v1 : zu (zu (zu P 179 0 0) 179 1 0) 179 2 0 179 0 = 0 ∧ zu (zu (zu P 179 0 0) 179 1 0) 179 2 0 179 1 = 0 ∧ zu (zu (zu P 179 0 0) 179 1 0) 179 2 0 179 2 = 0 := by
    simp (disch := omega) only [zun2, zus]
    exact ⟨trivial, trivial, trivial⟩
  generalize zu (zu (zu P 179 0 0) 179 1 0) 179 2 0 = P1 at k1 c1 f1 v1
  have c2 : ∀ n m, _ := fun n m => e145_l (n := n) (m := m) k1 1024 0 (by omega) (by omega)
  simp only [zfl_0] at c2
  have k2 : zPR (zfl P1 185 1024 0) := zPR_t (fun r y => decide (r = 185)) (by decide +kernel) k1 (fun r y hr => zfl_r (by simpa using hr))
  have f2 : ∀ r y, r ≠ 185 → zfl P1 185 1024 0 r y = P1 r y := fun r y h => zfl_r h
  have v2 : ∀ y, 0 ≤ y → y < 1024 → zfl P1 185 1024 0 185 y = 0 := fun y y0 y1 => zfl_in (by omega)
  generalize zfl P1 185 1024 0 = P2 at c2 k2 f2 v2
  refine ⟨zu (zu (zu (zu (zu (zu (zu (zu (zu (zu (zu (zu (zu P2 178 5 2) 178 6 0) 178 10 0) 178 11 0) 178 12 0) 178 13 1) 186 0 1) 178 15 9) 178 16 2000) 178 17 0) 178 21 0) 178 25 0) 178 26 0, fun n m => ?_, ?_, ?_, fun r y hr => ?_⟩
  · rw [c1, c2, q145_14]
    simp (disch := omega) only [q145_27, q145_30, q145_33, q145_36, q145_39, q145_42, q145_47, q145_50, q145_53, q145_56, q145_59, q145_62, q145_65, zk_178, zk_186, zp_178_14 k2, zun, zun2, zg_pos, ↓reduceIte, Int.reduceEq, Int.reduceLE, Int.reduceLT, Int.reduceAdd, Int.reduceSub, Int.reduceMul, Int.reduceNeg, zg_T, zbI_ok, zbL_ok, zbN_ok, zite1, zite2, zite3, zem, Int.cast_ofNat_Int, and_self, and_true, true_and, or_true, true_or, or_self, ite_not, if_true, if_false, not_true_eq_false, not_false_eq_true]
  · obtain ⟨x1, x2, x3⟩ := v1
    unfold zFR
    simp (disch := omega) only [zun, zun2, zus, f2, x1, x2, x3]
    exact ⟨⟨trivial, trivial, trivial⟩, trivial, trivial, v2, ⟨trivial, trivial, trivial⟩, ⟨trivial, trivial, trivial, trivial⟩, trivial, trivial, trivial, trivial⟩
  · exact zPR_zu (zPR_zu (zPR_zu (zPR_zu (zPR_zu (zPR_zu (zPR_zu (zPR_zu (zPR_zu (zPR_zu (zPR_zu (zPR_zu (zPR_zu k2 (by decide +kernel)) (by decide +kernel)) (by decide +kernel)) (by decide +kernel)) (by decide +kernel)) (by decide +kernel)) (by decide +kernel)) (by decide +kernel)) (by decide +kernel)) (by decide +kernel)) (by decide +kernel)) (by decide +kernel)) (by decide +kernel)
  · rw [zun (by omega), zun (by omega), zun (by omega), zun (by omega), zun (by omega), zun (by omega), zun (by omega), zun (by omega), zun (by omega), zun (by omega), zun (by omega), zun (by omega), zun (by omega), f2 _ _ (by omega), f1 _ _ (by omega)]
theorem o_begin {q : Int} {M P : zM} (h : zRel q M P) (n m : Nat) : zOpn 0 92 145 [] [(9, 0)] M P n m := by
  obtain ⟨⟨r0, r1⟩, rc, rh, rp, rb, rs, rw0, rx, ro, rk, rt, rr⟩ := id h
  obtain ⟨M', c1, c2, c3, c4⟩ := e132 (n := n) (m := m) r0
  obtain ⟨P', d1, d2, d3, d4⟩ := e145 r1
  refine ⟨0, M', P', ?_, fun r y hr => c4 r y (by omega), d1 n m, fun r y hr => d4 r y (by omega), zRel_fresh c3 d3 c2 d2 (rt.of (fun r y a b => c4 r y (by omega)) (fun r y a b => d4 r y (by omega)))⟩
  simp only [q92_0, c1, zk_1, ↓reduceIte, Int.reduceEq, Int.reduceLE, Int.reduceLT, Int.reduceAdd, Int.reduceSub, Int.reduceMul, Int.reduceNeg, zg_T, zbI_ok, zbL_ok, zbN_ok, zite1, zite2, zite3, zem, Int.cast_ofNat_Int, and_self, and_true, true_and, or_true, true_or, or_self, ite_not, if_true, if_false, not_true_eq_false, not_false_eq_true]
