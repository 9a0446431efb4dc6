/-! SAND -/
theorem zcmp_lt {a b : Int} : (zcmp a b < 0) = (a < b) := by
  unfold zcmp
  apply propext
  by_cases h : b < a
  · rw [if_pos h]; omega
  · rw [if_neg h]
    by_cases h2 : a = b
    · rw [if_pos h2]; omega
    · rw [if_neg h2]; omega
theorem zcmp_le {a b : Int} : (zcmp a b ≤ 0) = (a ≤ b) := by
  unfold zcmp
  apply propext
  by_cases h : b < a
  · rw [if_pos h]; omega
  · rw [if_neg h]
    by_cases h2 : a = b
    · rw [if_pos h2]; omega
    · rw [if_neg h2]; omega
theorem zbmo {v : Int} (h : -2147483648 ≤ v ∧ v ≤ 2147483647) : Int.bmod v 4294967296 = v := by
  apply Int.bmod_eq_of_le <;> omega
theorem e81_l {M P : zM} {n m n' m' : Nat} {r d k : Int} (r1 : zPR P) (hk : zkd (zKs, n, m) r = (1, 64)) (hd : 0 ≤ d ∧ d ≤ 5) (hn : k ≤ 30) (hf : ∀ i, 0 ≤ i → i < 64 → M r i = P 203 (64 * d + i)) : ∀ (q : Nat) (i s : Int) (d5 : zV), 0 ≤ i → i + q = k → (s = 0 ∨ s = 1) → ∃ v : Int, zex 81 4 [] [(2, r), (0, k), (0, s), (0, i)] M (zKs, n, m) = some ((0, v), M, (zKs, n, m)) ∧
    ((v = 0 ∧ zex 156 43 [] [(2, 178), (0, d), (0, k), (0, s), (0, i), d5, (9, 0)] P (zKs, n', m') = some ((0, -5), P, (zKs, n', m'))) ∨
      (v = 1 ∧ (∀ j, i ≤ j → j < k → 0 ≤ M r j ∧ M r j ≤ 9) ∧ ∃ d6 s', zex 156 43 [] [(2, 178), (0, d), (0, k), (0, s), (0, i), d5, (9, 0)] P (zKs, n', m') = zex 156 83 [] [(2, 178), (0, d), (0, k), (0, s'), (0, 0), d6, (9, 0)] P (zKs, n', m')))
  | 0, i, s, d5, h0, h1, h2 => by
    rcases h2 with rfl | rfl
    · refine ⟨0, ?_, .inl ⟨rfl, ?_⟩⟩
      · rw [q81_4, if_pos (by omega), q81_39, zg_pos (by omega)]
      · rw [q156_43, if_pos (by omega), if_pos rfl]
    · refine ⟨1, ?_, .inr ⟨rfl, fun j a b => by omega, d5, 1, ?_⟩⟩
      · rw [q81_4, if_pos (by omega), q81_39, zg_pos (by omega)]
      · rw [q156_43, if_pos (by omega), if_neg (by omega)]
  | q + 1, i, s, d5, h0, h1, h2 => by
    have e := hf i h0 (by omega)
    by_cases a1 : P 203 (64 * d + i) < 0
    · refine ⟨0, ?_, .inl ⟨rfl, ?_⟩⟩
      · rw [q81_4, if_neg (by omega)]
        simp (disch := omega) only [q81_23, hk, zcmp_lt, e, a1, zg_pos, if_neg, ↓reduceIte, Int.reduceEq, Int.reduceLE, Int.reduceLT, Int.reduceAdd, Int.reduceSub, Int.reduceMul, Int.reduceNeg, zg_T, zbI_ok, zbL_ok, zbN_ok, zite1, zite2, zite3, zem, Int.cast_ofNat_Int, and_self, and_true, true_and, or_true, true_or, or_self, ite_not, if_true, if_false, not_true_eq_false, not_false_eq_true]
      · rw [q156_43, if_neg (by omega)]
        simp (disch := omega) only [q156_63, zk_178, zk_203, zp_178_39 r1, zcmp_lt, a1, zg_pos, zI, ↓reduceIte, Int.reduceEq, Int.reduceLE, Int.reduceLT, Int.reduceAdd, Int.reduceSub, Int.reduceMul, Int.reduceNeg, zg_T, zbI_ok, zbL_ok, zbN_ok, zite1, zite2, zite3, zem, Int.cast_ofNat_Int, and_self, and_true, true_and, or_true, true_or, or_self, ite_not, if_true, if_false, not_true_eq_false, not_false_eq_true]
    · by_cases a2 : P 203 (64 * d + i) ≤ 9
      · by_cases a3 : s = 0 ∧ P 203 (64 * d + i) ≤ 0
        · obtain ⟨v, v1, v2⟩ := e81_l (n := n) (m := m) (n' := n') (m' := m') r1 hk hd hn hf q (i + 1) 0 (1, P 203 (64 * d + i)) (by omega) (by omega) (.inl rfl)
          have f1 : zex 81 4 [] [(2, r), (0, k), (0, s), (0, i)] M (zKs, n, m) = zex 81 4 [] [(2, r), (0, k), (0, 0), (0, i + 1)] M (zKs, n, m) := by
            rw [q81_4, if_neg (by omega)]
            simp (disch := omega) only [q81_36, hk, zcmp_lt, zcmp_le, e, a1, a2, a3, zg_pos, if_neg, zI, ↓reduceIte, Int.reduceEq, Int.reduceLE, Int.reduceLT, Int.reduceAdd, Int.reduceSub, Int.reduceMul, Int.reduceNeg, zg_T, zbI_ok, zbL_ok, zbN_ok, zite1, zite2, zite3, zem, Int.cast_ofNat_Int, and_self, and_true, true_and, or_true, true_or, or_self, ite_not, if_true, if_false, not_true_eq_false, not_false_eq_true]
          have f2 : zex 156 43 [] [(2, 178), (0, d), (0, k), (0, s), (0, i), d5, (9, 0)] P (zKs, n', m') = zex 156 43 [] [(2, 178), (0, d), (0, k), (0, 0), (0, i + 1), (1, P 203 (64 * d + i)), (9, 0)] P (zKs, n', m') := by
            rw [q156_43, if_neg (by omega)]
            simp (disch := omega) only [q156_74, zk_178, zk_203, zp_178_39 r1, zcmp_lt, zcmp_le, a1, a2, a3, zg_pos, zI, ↓reduceIte, Int.reduceEq, Int.reduceLE, Int.reduceLT, Int.reduceAdd, Int.reduceSub, Int.reduceMul, Int.reduceNeg, zg_T, zbI_ok, zbL_ok, zbN_ok, zite1, zite2, zite3, zem, Int.cast_ofNat_Int, and_self, and_true, true_and, or_true, true_or, or_self, ite_not, if_true, if_false, not_true_eq_false, not_false_eq_true]
          rw [f1, f2]
          refine ⟨v, v1, v2.imp_right (fun ⟨g1, g2, g3⟩ => ⟨g1, fun j j1 j2 => ?_, g3⟩)⟩
          by_cases hj : j = i
          · subst hj; rw [e]; omega
          · exact g2 j (by omega) j2
        · obtain ⟨v, v1, v2⟩ := e81_l (n := n) (m := m) (n' := n') (m' := m') r1 hk hd hn hf q (i + 1) 1 (1, P 203 (64 * d + i)) (by omega) (by omega) (.inr rfl)
          have f1 : zex 81 4 [] [(2, r), (0, k), (0, s), (0, i)] M (zKs, n, m) = zex 81 4 [] [(2, r), (0, k), (0, 1), (0, i + 1)] M (zKs, n, m) := by
            rw [q81_4, if_neg (by omega)]
            by_cases a4 : s = 0
            · have a5 : ¬ P 203 (64 * d + i) ≤ 0 := fun c => a3 ⟨a4, c⟩
              simp (disch := omega) only [q81_33, q81_36, hk, zcmp_lt, zcmp_le, e, a1, a2, a4, a5, zg_pos, if_neg, zI, ↓reduceIte, Int.reduceEq, Int.reduceLE, Int.reduceLT, Int.reduceAdd, Int.reduceSub, Int.reduceMul, Int.reduceNeg, zg_T, zbI_ok, zbL_ok, zbN_ok, zite1, zite2, zite3, zem, Int.cast_ofNat_Int, and_self, and_true, true_and, or_true, true_or, or_self, ite_not, if_true, if_false, not_true_eq_false, not_false_eq_true]
            · simp (disch := omega) only [q81_33, q81_36, hk, zcmp_lt, zcmp_le, e, a1, a2, a4, zg_pos, if_neg, zI, ↓reduceIte, Int.reduceEq, Int.reduceLE, Int.reduceLT, Int.reduceAdd, Int.reduceSub, Int.reduceMul, Int.reduceNeg, zg_T, zbI_ok, zbL_ok, zbN_ok, zite1, zite2, zite3, zem, Int.cast_ofNat_Int, and_self, and_true, true_and, or_true, true_or, or_self, ite_not, if_true, if_false, not_true_eq_false, not_false_eq_true]
          have f2 : zex 156 43 [] [(2, 178), (0, d), (0, k), (0, s), (0, i), d5, (9, 0)] P (zKs, n', m') = zex 156 43 [] [(2, 178), (0, d), (0, k), (0, 1), (0, i + 1), (1, P 203 (64 * d + i)), (9, 0)] P (zKs, n', m') := by
            rw [q156_43, if_neg (by omega)]
            by_cases a4 : s = 0
            · have a5 : ¬ P 203 (64 * d + i) ≤ 0 := fun c => a3 ⟨a4, c⟩
              simp (disch := omega) only [q156_71, q156_74, zk_178, zk_203, zp_178_39 r1, zcmp_lt, zcmp_le, a1, a2, a4, a5, zg_pos, zI, ↓reduceIte, Int.reduceEq, Int.reduceLE, Int.reduceLT, Int.reduceAdd, Int.reduceSub, Int.reduceMul, Int.reduceNeg, zg_T, zbI_ok, zbL_ok, zbN_ok, zite1, zite2, zite3, zem, Int.cast_ofNat_Int, and_self, and_true, true_and, or_true, true_or, or_self, ite_not, if_true, if_false, not_true_eq_false, not_false_eq_true]
            · simp (disch := omega) only [q156_71, q156_74, zk_178, zk_203, zp_178_39 r1, zcmp_lt, zcmp_le, a1, a2, a4, zg_pos, zI, ↓reduceIte, Int.reduceEq, Int.reduceLE, Int.reduceLT, Int.reduceAdd, Int.reduceSub, Int.reduceMul, Int.reduceNeg, zg_T, zbI_ok, zbL_ok, zbN_ok, zite1, zite2, zite3, zem, Int.cast_ofNat_Int, and_self, and_true, true_and, or_true, true_or, or_self, ite_not, if_true, if_false, not_true_eq_false, not_false_eq_true]
          rw [f1, f2]
          refine ⟨v, v1, v2.imp_right (fun ⟨g1, g2, g3⟩ => ⟨g1, fun j j1 j2 => ?_, g3⟩)⟩
          by_cases hj : j = i
          · subst hj; rw [e]; omega
          · exact g2 j (by omega) j2
      · refine ⟨0, ?_, .inl ⟨rfl, ?_⟩⟩
        · rw [q81_4, if_neg (by omega)]
          simp (disch := omega) only [q81_23, hk, zcmp_lt, zcmp_le, e, a1, a2, zg_pos, if_neg, ↓reduceIte, Int.reduceEq, Int.reduceLE, Int.reduceLT, Int.reduceAdd, Int.reduceSub, Int.reduceMul, Int.reduceNeg, zg_T, zbI_ok, zbL_ok, zbN_ok, zite1, zite2, zite3, zem, Int.cast_ofNat_Int, and_self, and_true, true_and, or_true, true_or, or_self, ite_not, if_true, if_false, not_true_eq_false, not_false_eq_true]
        · rw [q156_43, if_neg (by omega)]
          simp (disch := omega) only [q156_63, zk_178, zk_203, zp_178_39 r1, zcmp_lt, zcmp_le, a1, a2, zg_pos, zI, ↓reduceIte, Int.reduceEq, Int.reduceLE, Int.reduceLT, Int.reduceAdd, Int.reduceSub, Int.reduceMul, Int.reduceNeg, zg_T, zbI_ok, zbL_ok, zbN_ok, zite1, zite2, zite3, zem, Int.cast_ofNat_Int, and_self, and_true, true_and, or_true, true_or, or_self, ite_not, if_true, if_false, not_true_eq_false, not_false_eq_true]
theorem e82_l {M : zM} {n m : Nat} {r k x : Int} (r0 : zPC M) (hr : r ≠ 25 ∧ r ≠ 26 ∧ 0 < r) (hk : zkd (zKs, n, m) r = (1, 64)) (hn : k ≤ 30) (hc : M 25 1 = k) (hf : ∀ i, 0 ≤ i → i < k → 0 ≤ M r i ∧ M r i ≤ 9) : ∀ (q : Nat) (i : Int), 0 ≤ i → i + q = k → zex 82 7 [] [(2, 25), (2, r), (0, x), (0, i)] (zcpy M r 0 26 0 i) (zKs, n, m) = some ((9, 0), zcpy M r 0 26 0 k, (zKs, n, m))
  | 0, i, h0, h1 => by
    rw [q82_7, zg_pos (zk_25 n m), zcpy_r (by omega), if_pos (by omega), q82_25, show i = k by omega]
  | q + 1, i, h0, h1 => by
    have f := hf i h0 (by omega)
    have zs := zcpy_z (M := M) (a := r) (b := 26) (dp := 0) h0
    rw [Int.zero_add] at zs
    rw [← e82_l (n := n) (m := m) (x := x) r0 hr hk hn hc hf q (i + 1) (by omega) (by omega), q82_7]
    simp (disch := omega) only [zk_25, zk_26, hk, zcpy_r, hc, zp_25_0 r0, zbmo, zs, zg_pos, if_neg, zI, ↓reduceIte, Int.reduceEq, Int.reduceLE, Int.reduceLT, Int.reduceAdd, Int.reduceSub, Int.reduceMul, Int.reduceNeg, zg_T, zbI_ok, zbL_ok, zbN_ok, zite1, zite2, zite3, zem, Int.cast_ofNat_Int, and_self, and_true, true_and, or_true, true_or, or_self, ite_not, if_true, if_false, not_true_eq_false, not_false_eq_true]
theorem e156_l {P : zM} {n m : Nat} {d k x : Int} {d5 : zV} (r1 : zPR P) (hd : 0 ≤ d ∧ d ≤ 5) (hn : k ≤ 30) (hf : ∀ i, 0 ≤ i → i < k → 0 ≤ P 203 (64 * d + i) ∧ P 203 (64 * d + i) ≤ 9) : ∀ (q : Nat) (i : Int), 0 ≤ i → i + q = k → zex 156 83 [] [(2, 178), (0, d), (0, k), (0, x), (0, i), d5, (9, 0)] (zcpy P 203 (64 * d) 186 0 i) (zKs, n, m) = some ((0, k), zu (zcpy P 203 (64 * d) 186 0 k) 178 13 k, (zKs, n, m))
  | 0, i, h0, h1 => by
    rw [q156_83, if_pos (by omega), zg_pos (zk_178 n m), show i = k by omega]
  | q + 1, i, h0, h1 => by
    have f := hf i h0 (by omega)
    have zs := zcpy_s0 (M := P) (a := 203) (sp := 64 * d) (b := 186) h0
    rw [← e156_l (n := n) (m := m) (x := x) (d5 := d5) r1 hd hn hf q (i + 1) (by omega) (by omega), q156_83]
    simp (disch := omega) only [zk_178, zk_186, zk_203, zcpy_r, zp_178_14 r1, zp_178_39 r1, zbmo, zs, zg_pos, if_neg, zI, ↓reduceIte, Int.reduceEq, Int.reduceLE, Int.reduceLT, Int.reduceAdd, Int.reduceSub, Int.reduceMul, Int.reduceNeg, zg_T, zbI_ok, zbL_ok, zbN_ok, zite1, zite2, zite3, zem, Int.cast_ofNat_Int, and_self, and_true, true_and, or_true, true_or, or_self, ite_not, if_true, if_false, not_true_eq_false, not_false_eq_true]
theorem o_sand {q : Int} {M P : zM} (h : zRel q M P) (hq : q ≤ 1000) (n m : Nat) (d k : Int) : zOpn (q + 1) 100 156 [(0, d), (0, k), (9, 0)] [(0, d), (0, k), (9, 0), (9, 0), (9, 0), (9, 0)] M P n m := by
  obtain ⟨⟨r0, r1⟩, rc, rh, rp, rb, rs, rw0, rx, ro, rk, rt, rr⟩ := id h
  by_cases hd : 0 ≤ d ∧ d ≤ 5
  · obtain ⟨t1, t2, t3, t4⟩ := rt.at hd
    by_cases hk : 1 ≤ k ∧ k ≤ 30
    · by_cases hz : P 201 d = 0
      · refine zOpn_rf h (-11) ?_ ?_
        · simp (disch := omega) only [q100_0, ↓b136, ↓b133, hd, hk, t1, hz, zk_1, zk_75, zp_1_8 r0, zrp75 r0 hd, (zrk75 n m hd).1, zrf1 h hq, zg_pos, ↓reduceIte, Int.reduceEq, Int.reduceLE, Int.reduceLT, Int.reduceAdd, Int.reduceSub, Int.reduceMul, Int.reduceNeg, zg_T, zbI_ok, zbL_ok, zbN_ok, zite1, zite2, zite3, zem, Int.cast_ofNat_Int, and_self, and_true, true_and, or_true, true_or, or_self, ite_not, if_true, if_false, not_true_eq_false, not_false_eq_true]
        · simp (disch := omega) only [q156_0, ↓b207, ↓b143, hd, hk, hz, zk_178, zk_201, zp_178_37 r1, zrf2 h hq, zg_pos, ↓reduceIte, Int.reduceEq, Int.reduceLE, Int.reduceLT, Int.reduceAdd, Int.reduceSub, Int.reduceMul, Int.reduceNeg, zg_T, zbI_ok, zbL_ok, zbN_ok, zite1, zite2, zite3, zem, Int.cast_ofNat_Int, and_self, and_true, true_and, or_true, true_or, or_self, ite_not, if_true, if_false, not_true_eq_false, not_false_eq_true]
      · by_cases hz1 : P 201 d = 1
        · obtain ⟨t5, t6, t7⟩ := t3 (by omega) (by omega)
          by_cases hs : k ≤ P 202 d
          · obtain ⟨v, v1, v2⟩ := e81_l (M := M) (n := n) (m := m) (n' := n) (m' := m) r1 (zrk75 n m hd).2 hd hk.2 t7 k.toNat 0 0 (9, 0) (by omega) (by omega) (.inl rfl)
            rcases v2 with ⟨rfl, v2⟩ | ⟨rfl, v2, d6, s', v3⟩
            · refine zOpn_same h (-5) ?_ ?_
              · simp (disch := omega) only [q100_0, ↓b136, ↓b133, hd, hk, t1, hz1, t5, hs, q81_0, v1, zk_1, zk_75, zp_1_8 r0, zrp75 r0 hd, (zrk75 n m hd).1, (zrp76 r0 hd).1, zg_pos, ↓reduceIte, Int.reduceEq, Int.reduceLE, Int.reduceLT, Int.reduceAdd, Int.reduceSub, Int.reduceMul, Int.reduceNeg, zg_T, zbI_ok, zbL_ok, zbN_ok, zite1, zite2, zite3, zem, Int.cast_ofNat_Int, and_self, and_true, true_and, or_true, true_or, or_self, ite_not, if_true, if_false, not_true_eq_false, not_false_eq_true]
              · simp (disch := omega) only [q156_0, ↓b207, ↓b143, hd, hk, hz1, hs, v2, zk_178, zk_201, zk_202, zp_178_37 r1, zp_178_38 r1, zg_pos, ↓reduceIte, Int.reduceEq, Int.reduceLE, Int.reduceLT, Int.reduceAdd, Int.reduceSub, Int.reduceMul, Int.reduceNeg, zg_T, zbI_ok, zbL_ok, zbN_ok, zite1, zite2, zite3, zem, Int.cast_ofNat_Int, and_self, and_true, true_and, or_true, true_or, or_self, ite_not, if_true, if_false, not_true_eq_false, not_false_eq_true]
            · have k0 : zPC (zu M 25 1 k) := zPC_zu r0 (by decide +kernel)
              have c1 := e82_l (n := n) (m := m) (r := 77 + 17 * d) (k := k) (x := k) k0 (by omega) (zrk75 n m hd).2 hk.2 zus (fun i i0 i1 => by rw [zun (by omega)]; exact v2 i i0 i1) k.toNat 0 (by omega) (by omega)
              rw [zcpy_0] at c1
              have c2 := e156_l (n := n) (m := m) (x := s') (d5 := d6) r1 hd hk.2 (fun i i0 i1 => by rw [← t7 i i0 (by omega)]; exact v2 i i0 i1) k.toNat 0 (by omega) (by omega)
              rw [zcpy_0] at c2
              have hmin : min k 30 = k := by omega
              have hh : zRel q (zcpy (zu M 25 1 k) (77 + 17 * d) 0 26 0 k) (zu (zcpy P 203 (64 * d) 186 0 k) 178 13 k) := by
                generalize hM1 : zcpy (zu M 25 1 k) (77 + 17 * d) 0 26 0 k = M1
                generalize hP1 : zu (zcpy P 203 (64 * d) 186 0 k) 178 13 k = P1
                have u1 : ∀ r y, (r < 25 ∨ 26 < r ∨ (r = 25 ∧ y ≠ 1)) → M1 r y = M r y := fun r y hr => by
                  rw [← hM1, zcpy_r (by omega)]
                  by_cases e : r = 25
                  · rw [zun2 (by omega)]
                  · rw [zun e]
                have u2 : ∀ r y, (r < 178 ∨ (178 < r ∧ r ≠ 186) ∨ (r = 178 ∧ y ≠ 13)) → P1 r y = P r y := fun r y hr => by
                  rw [← hP1]
                  by_cases e : r = 178
                  · rw [zun2 (by omega), zcpy_r (by omega)]
                  · rw [zun e, zcpy_r (by omega)]
                obtain ⟨w1, w2, w3, w4, w5, w6, w7⟩ := rw0
                refine ⟨⟨zPC_t (fun r y => decide (r = 26) || (decide (r = 25) && decide (y = 1))) (by decide +kernel) r0 (fun r y hr => u1 r y (by simp at hr; omega)), zPR_t (fun r y => decide (r = 186) || (decide (r = 178) && decide (y = 13))) (by decide +kernel) r1 (fun r y hr => u2 r y (by simp at hr; omega))⟩, rc.of (by (intros; first | rfl | (simp (disch := omega) only [u1, u2, and_self]))) (by (intros; first | rfl | (simp (disch := omega) only [u1, u2, and_self]))) (by (intros; first | rfl | (simp (disch := omega) only [u1, u2, and_self]))), (by (simp (disch := omega) only [u1, u2]; exact rh)), rp.of (by (intros; first | rfl | (simp (disch := omega) only [u1, u2, and_self]))) (by (intros; first | rfl | (simp (disch := omega) only [u1, u2, and_self]))) (by (intros; first | rfl | (simp (disch := omega) only [u1, u2, and_self]))) (by (intros; first | rfl | (simp (disch := omega) only [u1, u2, and_self]))), rb.of (by (intros; first | rfl | (simp (disch := omega) only [u1, u2, and_self]))) (by (intros; first | rfl | (simp (disch := omega) only [u1, u2, and_self]))) (by (intros; first | rfl | (simp (disch := omega) only [u1, u2, and_self]))), rs.of (by (intros; first | rfl | (simp (disch := omega) only [u1, u2, and_self]))) (by (intros; first | rfl | (simp (disch := omega) only [u1, u2, and_self]))) (by (intros; first | rfl | (simp (disch := omega) only [u1, u2, and_self]))) (by (intros; first | rfl | (simp (disch := omega) only [u1, u2, and_self]))), ?_, rx.of (by (intros; first | rfl | (simp (disch := omega) only [u1, u2, and_self]))) (by (intros; first | rfl | (simp (disch := omega) only [u1, u2, and_self]))) (by (intros; first | rfl | (simp (disch := omega) only [u1, u2, and_self]))) (by (intros; first | rfl | (simp (disch := omega) only [u1, u2, and_self]))), ro.of (by (intros; first | rfl | (simp (disch := omega) only [u1, u2, and_self]))) (by (intros; first | rfl | (simp (disch := omega) only [u1, u2, and_self]))) (by (intros; first | rfl | (simp (disch := omega) only [u1, u2, and_self]))) (by (intros; first | rfl | (simp (disch := omega) only [u1, u2, and_self]))), rk.of (by (intros; first | rfl | (simp (disch := omega) only [u1, u2, and_self]))) (by (intros; first | rfl | (simp (disch := omega) only [u1, u2, and_self]))) (by (intros; first | rfl | (simp (disch := omega) only [u1, u2, and_self]))) (by (intros; first | rfl | (simp (disch := omega) only [u1, u2, and_self]))) (by (intros; first | rfl | (simp (disch := omega) only [u1, u2, and_self]))), rt.of (by (intros; first | rfl | (simp (disch := omega) only [u1, u2, and_self]))) (by (intros; first | rfl | (simp (disch := omega) only [u1, u2, and_self]))), (by (simp (disch := omega) only [u1, u2]; exact rr))⟩
                have x1 : M1 25 1 = k := by rw [← hM1, zcpy_r (by omega), zus]
                have x2 : P1 178 13 = k := by rw [← hP1, zus]
                unfold zRw
                rw [x1, x2, u1 25 2 (by omega), u1 25 3 (by omega), u2 178 15 (by omega), u2 178 16 (by omega)]
                refine ⟨rfl, hk, w3, w4, w5, w6, fun i i0 i1 => ?_⟩
                have f := v2 i i0 i1
                have f2 := t7 i i0 (by omega)
                have x3 : M1 26 i = M (77 + 17 * d) i := by rw [← hM1, zcpy_in (by omega), zun (by omega), show 0 + (i - 0) = i by omega]
                have x4 : P1 186 i = P 203 (64 * d + i) := by rw [← hP1, zun (by omega), zcpy_in (by omega), show 64 * d + (i - 0) = 64 * d + i by omega]
                rw [x3, x4, ← f2]
                exact ⟨rfl, f⟩
              refine ⟨k, _, _, ?_, fun r y hr => by rw [zcpy_r (by omega), zun (by omega)], ?_, fun r y hr => by rw [zun (by omega), zcpy_r (by omega)], hh.mono (by omega)⟩
              · simp (disch := omega) only [q100_0, ↓b136, ↓b133, hd, hk, t1, hz1, t5, hs, q81_0, v1, q82_0, ↓b221, hmin, c1, zk_1, zk_25, zk_75, zp_1_3 r0, zp_1_8 r0, zrp75 r0 hd, (zrk75 n m hd).1, (zrp76 r0 hd).1, zg_pos, ↓reduceIte, Int.reduceEq, Int.reduceLE, Int.reduceLT, Int.reduceAdd, Int.reduceSub, Int.reduceMul, Int.reduceNeg, zg_T, zbI_ok, zbL_ok, zbN_ok, zite1, zite2, zite3, zem, Int.cast_ofNat_Int, and_self, and_true, true_and, or_true, true_or, or_self, ite_not, if_true, if_false, not_true_eq_false, not_false_eq_true]
              · simp (disch := omega) only [q156_0, ↓b207, ↓b143, hd, hk, hz1, hs, v3, c2, zk_178, zk_201, zk_202, zp_178_37 r1, zp_178_38 r1, zg_pos, ↓reduceIte, Int.reduceEq, Int.reduceLE, Int.reduceLT, Int.reduceAdd, Int.reduceSub, Int.reduceMul, Int.reduceNeg, zg_T, zbI_ok, zbL_ok, zbN_ok, zite1, zite2, zite3, zem, Int.cast_ofNat_Int, and_self, and_true, true_and, or_true, true_or, or_self, ite_not, if_true, if_false, not_true_eq_false, not_false_eq_true]
          · refine zOpn_rf h (-13) ?_ ?_
            · simp (disch := omega) only [q100_0, ↓b136, ↓b133, hd, hk, t1, hz1, t5, hs, zk_1, zk_75, zp_1_8 r0, zrp75 r0 hd, (zrk75 n m hd).1, zrf1 h hq, zg_pos, ↓reduceIte, Int.reduceEq, Int.reduceLE, Int.reduceLT, Int.reduceAdd, Int.reduceSub, Int.reduceMul, Int.reduceNeg, zg_T, zbI_ok, zbL_ok, zbN_ok, zite1, zite2, zite3, zem, Int.cast_ofNat_Int, and_self, and_true, true_and, or_true, true_or, or_self, ite_not, if_true, if_false, not_true_eq_false, not_false_eq_true]
            · simp (disch := omega) only [q156_0, ↓b207, ↓b143, hd, hk, hz1, hs, zk_178, zk_201, zk_202, zp_178_37 r1, zp_178_38 r1, zrf2 h hq, zg_pos, ↓reduceIte, Int.reduceEq, Int.reduceLE, Int.reduceLT, Int.reduceAdd, Int.reduceSub, Int.reduceMul, Int.reduceNeg, zg_T, zbI_ok, zbL_ok, zbN_ok, zite1, zite2, zite3, zem, Int.cast_ofNat_Int, and_self, and_true, true_and, or_true, true_or, or_self, ite_not, if_true, if_false, not_true_eq_false, not_false_eq_true]
        · refine zOpn_rf h (-12) ?_ ?_
          · simp (disch := omega) only [q100_0, ↓b136, ↓b133, hd, hk, t1, hz, hz1, zk_1, zk_75, zp_1_8 r0, zrp75 r0 hd, (zrk75 n m hd).1, zrf1 h hq, zg_pos, ↓reduceIte, Int.reduceEq, Int.reduceLE, Int.reduceLT, Int.reduceAdd, Int.reduceSub, Int.reduceMul, Int.reduceNeg, zg_T, zbI_ok, zbL_ok, zbN_ok, zite1, zite2, zite3, zem, Int.cast_ofNat_Int, and_self, and_true, true_and, or_true, true_or, or_self, ite_not, if_true, if_false, not_true_eq_false, not_false_eq_true]
          · simp (disch := omega) only [q156_0, ↓b207, ↓b143, hd, hk, hz, hz1, zk_178, zk_201, zp_178_37 r1, zrf2 h hq, zg_pos, ↓reduceIte, Int.reduceEq, Int.reduceLE, Int.reduceLT, Int.reduceAdd, Int.reduceSub, Int.reduceMul, Int.reduceNeg, zg_T, zbI_ok, zbL_ok, zbN_ok, zite1, zite2, zite3, zem, Int.cast_ofNat_Int, and_self, and_true, true_and, or_true, true_or, or_self, ite_not, if_true, if_false, not_true_eq_false, not_false_eq_true]
    · refine zOpn_same h (-1) ?_ ?_
      · simp only [q100_0, q100_8, ↓b136, ↓b133, hd, hk, ↓reduceIte, Int.reduceEq, Int.reduceLE, Int.reduceLT, Int.reduceAdd, Int.reduceSub, Int.reduceMul, Int.reduceNeg, zg_T, zbI_ok, zbL_ok, zbN_ok, zite1, zite2, zite3, zem, Int.cast_ofNat_Int, and_self, and_true, true_and, or_true, true_or, or_self, ite_not, if_true, if_false, not_true_eq_false, not_false_eq_true]
      · simp only [q156_0, q156_8, ↓b207, ↓b143, hd, hk, ↓reduceIte, Int.reduceEq, Int.reduceLE, Int.reduceLT, Int.reduceAdd, Int.reduceSub, Int.reduceMul, Int.reduceNeg, zg_T, zbI_ok, zbL_ok, zbN_ok, zite1, zite2, zite3, zem, Int.cast_ofNat_Int, and_self, and_true, true_and, or_true, true_or, or_self, ite_not, if_true, if_false, not_true_eq_false, not_false_eq_true]
  · refine zOpn_same h (-1) ?_ ?_
    · simp only [q100_0, q100_8, ↓b136, hd, ↓reduceIte, Int.reduceEq, Int.reduceLE, Int.reduceLT, Int.reduceAdd, Int.reduceSub, Int.reduceMul, Int.reduceNeg, zg_T, zbI_ok, zbL_ok, zbN_ok, zite1, zite2, zite3, zem, Int.cast_ofNat_Int, and_self, and_true, true_and, or_true, true_or, or_self, ite_not, if_true, if_false, not_true_eq_false, not_false_eq_true]
    · simp only [q156_0, q156_8, ↓b207, hd, ↓reduceIte, Int.reduceEq, Int.reduceLE, Int.reduceLT, Int.reduceAdd, Int.reduceSub, Int.reduceMul, Int.reduceNeg, zg_T, zbI_ok, zbL_ok, zbN_ok, zite1, zite2, zite3, zem, Int.cast_ofNat_Int, and_self, and_true, true_and, or_true, true_or, or_self, ite_not, if_true, if_false, not_true_eq_false, not_false_eq_true]
