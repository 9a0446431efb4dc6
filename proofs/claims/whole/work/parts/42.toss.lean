/-! TOSS -/
theorem e126_n {c r0 x1 x2 v : Int} {M M1 : zM} {X X1 : zX} (h : zkd X c = (6, 0)) (hc : zex 7 0 [] [(2, c)] M X = some ((9, v), M1, X1)) : zex 126 13 [(2, c)] [(2, r0), (0, x1), (0, x2), (9, 0)] M X = zex 126 14 [] [(2, r0), (0, x1), (0, x2), (9, 0)] M1 X1 := by
  rw [zex_eq]
  refine Eq.trans (zg_pos h) ?_
  refine Eq.trans (congrArg (fun o => zbT o _ _) hc) ?_
  rfl
theorem e126_t {c r0 x1 x2 v : Int} {M M1 : zM} {X X1 : zX} (h : zkd X c = (6, 0)) (hc : zex 7 0 [] [(2, c)] M X = some ((8, v), M1, X1)) (hv : ¬ v < 2000) : zex 126 13 [(2, c)] [(2, r0), (0, x1), (0, x2), (9, 0)] M X = zex 126 16 [] [(2, r0), (0, x1), (0, x2), (9, 0)] M1 X1 := by
  rw [zex_eq]
  refine Eq.trans (zg_pos h) ?_
  refine Eq.trans (congrArg (fun o => zbT o _ _) hc) ?_
  exact if_neg hv
theorem zga_rc {M : zM} {c : Int} {m k l w : Int → Int} (rc : zRc M c m k l w) : zga M c = zsm (zgp k) 0 (m 0).toNat + zsm (zgp k) 40 (m 1).toNat + zsm (zgp k) 80 (m 2).toNat := by
  obtain ⟨a1, a2, a3, a4⟩ := rc 0 (by omega) (by omega)
  obtain ⟨b1, b2, b3, b4⟩ := rc 1 (by omega) (by omega)
  obtain ⟨c1, c2, c3, c4⟩ := rc 2 (by omega) (by omega)
  rw [show c + 3 + 4 * 0 = c + 3 by omega] at a1
  rw [show c + 3 + 4 * 1 = c + 7 by omega] at b1
  rw [show c + 3 + 4 * 2 = c + 11 by omega] at c1
  unfold zga
  rw [a1, b1, c1]
  rw [zsm_congr (f := zgp (M (c + 4))) (g := zgp k) (m 0).toNat 0 0 (fun j h1 h2 => by
      have := (a4 j h1 (by omega)).1
      rw [show c + 4 + 4 * 0 = c + 4 by omega, show 40 * 0 + j = 0 + j by omega] at this
      unfold zgp
      rw [show (0 : Int) + j = 0 + j from rfl, ← this, Int.zero_add]),
    zsm_congr (f := zgp (M (c + 8))) (g := zgp k) (m 1).toNat 0 40 (fun j h1 h2 => by
      have := (b4 j h1 (by omega)).1
      rw [show c + 4 + 4 * 1 = c + 8 by omega, show 40 * 1 + j = 40 + j by omega] at this
      unfold zgp
      rw [← this, Int.zero_add]),
    zsm_congr (f := zgp (M (c + 12))) (g := zgp k) (m 2).toNat 0 80 (fun j h1 h2 => by
      have := (c4 j h1 (by omega)).1
      rw [show c + 4 + 4 * 2 = c + 12 by omega, show 40 * 2 + j = 80 + j by omega] at this
      unfold zgp
      rw [← this, Int.zero_add])]
theorem e213_l {P : zM} {n m : Nat} {d x a : Int} (r1 : zPR P) (hd : 0 ≤ d ∧ d ≤ 5) (ha : 0 ≤ a ∧ a ≤ 2) (h1 : P 204 (3 * d + a) ≤ 40) : ∀ (q : Nat) (i s : Int), 0 ≤ i → i + q = P 204 (3 * d + a) → 0 ≤ s → s ≤ 40 * a + i → zex 213 17 [] [(2, 178), (0, d), (0, x), (0, s), (0, a), (0, i)] P (zKs, n, m) = zex 213 12 [] [(2, 178), (0, d), (0, x), (0, s + zsm (zgp (fun z => P 205 (120 * d + z))) (40 * a + i) q), (0, a + 1), (0, P 204 (3 * d + a))] P (zKs, n, m)
  | 0, i, s, h2, h3, h4, h5 => by
    rw [q213_17]
    have e : i = P 204 (3 * d + a) := by omega
    simp (disch := omega) only [zk_178, zk_204, zp_178_40 r1, zg_pos, if_pos, zI, zsm, Int.add_zero, e, ↓reduceIte, Int.reduceEq, Int.reduceLE, Int.reduceLT, Int.reduceAdd, Int.reduceSub, Int.reduceMul, Int.reduceNeg, zg_T, zbI_ok, zbL_ok, zbN_ok, zite1, zite2, zite3, zem, Int.cast_ofNat_Int, and_self, and_true, true_and, or_true, true_or, or_self, ite_not, if_true, if_false, not_true_eq_false, not_false_eq_true]
  | q + 1, i, s, h2, h3, h4, h5 => by
    have e0 : 120 * d + 40 * a + i = 120 * d + (40 * a + i) := by omega
    rw [q213_17]
    simp (disch := omega) only [q213_45, zk_178, zk_204, zk_205, zp_178_40 r1, zp_178_41 r1, e0, zg_pos, if_neg, zI, ↓reduceIte, Int.reduceEq, Int.reduceLE, Int.reduceLT, Int.reduceAdd, Int.reduceSub, Int.reduceMul, Int.reduceNeg, zg_T, zbI_ok, zbL_ok, zbN_ok, zite1, zite2, zite3, zem, Int.cast_ofNat_Int, and_self, and_true, true_and, or_true, true_or, or_self, ite_not, if_true, if_false, not_true_eq_false, not_false_eq_true]
    unfold zsm
    by_cases e : P 205 (120 * d + (40 * a + i)) = 3
    · rw [if_pos e, e213_l r1 hd ha h1 q (i + 1) _ (by omega) (by omega) (by omega) (by omega), show zgp (fun z => P 205 (120 * d + z)) (40 * a + i) = 1 from if_pos e]
      simp only [Int.add_assoc]
    · rw [if_neg e, e213_l r1 hd ha h1 q (i + 1) _ (by omega) (by omega) (by omega) (by omega), show zgp (fun z => P 205 (120 * d + z)) (40 * a + i) = 0 from if_neg e]
      simp only [Int.add_assoc, Int.add_zero, Int.zero_add]
/-- a call whose failure was caught within -/
def zOpx (q : Int) (k k' : Nat) (al al' : List zV) (M P : zM) (n m : Nat) : Prop := ∃ v M1 P1 n' m', zex k 0 [] ((2, 1) :: al) M (zKs, n, m) = some ((0, v), M1, (zKs, n', m')) ∧ zCf M M1 ∧ zex k' 0 [] ((2, 178) :: al') P (zKs, n', m') = some ((0, v), P1, (zKs, n', m')) ∧ zRf P P1 ∧ zRel q M1 P1 ∧ n ≤ n' + 1 ∧ m ≤ m' + 6
theorem o_toss {q : Int} {M P : zM} (h : zRel q M P) (hq : q ≤ 1000) (n m : Nat) (hn : 1 ≤ n) (hm : 6 ≤ m) (d : Int) : zOpx (q + 1) 126 213 [(0, d), (9, 0), (9, 0)] [(0, d), (9, 0), (9, 0), (9, 0), (9, 0)] M P n m := by
  obtain ⟨⟨r0, r1⟩, rc, rh, rp, rb, rs, rw0, rx, ro, rk, rt, rr⟩ := id h
  rcases e211 h hq d with ⟨hd, l1, l2⟩ | ⟨hd, v, hv, l1, l2⟩ | ⟨hd, h5, l1, l2⟩
  · refine ⟨-1, M, P, n, m, ?_, zCf.rfl, ?_, zRf.rfl, h.mono (by omega), by omega, by omega⟩
    · simp only [q126_0, l2, zk_1, ↓reduceIte, Int.reduceEq, Int.reduceLE, Int.reduceLT, Int.reduceAdd, Int.reduceSub, Int.reduceMul, Int.reduceNeg, zg_T, zbI_ok, zbL_ok, zbN_ok, zite1, zite2, zite3, zem, Int.cast_ofNat_Int, and_self, and_true, true_and, or_true, true_or, or_self, ite_not, if_true, if_false, not_true_eq_false, not_false_eq_true]
    · simp only [q213_0, l1, zk_178, ↓reduceIte, Int.reduceEq, Int.reduceLE, Int.reduceLT, Int.reduceAdd, Int.reduceSub, Int.reduceMul, Int.reduceNeg, zg_T, zbI_ok, zbL_ok, zbN_ok, zite1, zite2, zite3, zem, Int.cast_ofNat_Int, and_self, and_true, true_and, or_true, true_or, or_self, ite_not, if_true, if_false, not_true_eq_false, not_false_eq_true]
  · refine ⟨v, _, _, n, m, ?_, zCf.rfl.zu (a := 1) (b := 9) (v := P 178 25 + 1) (by omega), ?_, zRf.rfl.zu (a := 178) (b := 25) (v := P 178 25 + 1) (by omega), zRel_ref h, by omega, by omega⟩
    · simp only [q126_0, l2, hv, zk_1, ↓reduceIte, Int.reduceEq, Int.reduceLE, Int.reduceLT, Int.reduceAdd, Int.reduceSub, Int.reduceMul, Int.reduceNeg, zg_T, zbI_ok, zbL_ok, zbN_ok, zite1, zite2, zite3, zem, Int.cast_ofNat_Int, and_self, and_true, true_and, or_true, true_or, or_self, ite_not, if_true, if_false, not_true_eq_false, not_false_eq_true]
    · simp only [q213_0, l1, hv, zk_178, ↓reduceIte, Int.reduceEq, Int.reduceLE, Int.reduceLT, Int.reduceAdd, Int.reduceSub, Int.reduceMul, Int.reduceNeg, zg_T, zbI_ok, zbL_ok, zbN_ok, zite1, zite2, zite3, zem, Int.cast_ofNat_Int, and_self, and_true, true_and, or_true, true_or, or_self, ite_not, if_true, if_false, not_true_eq_false, not_false_eq_true]
  · obtain ⟨t1, t2, t3, t4⟩ := rt.at hd
    obtain ⟨f1, f2, f3, f4⟩ := t4 h5
    have g := zga_rc f1
    obtain ⟨a1, a2, a3, -⟩ := f1 0 (by omega) (by omega)
    obtain ⟨b1, b2, b3, -⟩ := f1 1 (by omega) (by omega)
    obtain ⟨c1, c2, c3, -⟩ := f1 2 (by omega) (by omega)
    dsimp only at a1 a2 a3 b1 b2 b3 c1 c2 c3 g
    rw [show 78 + 17 * d + 3 + 4 * 0 = 78 + 17 * d + 3 by omega] at a1
    rw [show 78 + 17 * d + 3 + 4 * 1 = 78 + 17 * d + 7 by omega] at b1
    rw [show 78 + 17 * d + 3 + 4 * 2 = 78 + 17 * d + 11 by omega] at c1
    have ca := zCaT r0 n m hd
    have k7 := e7 ca (by omega) (by omega) (by omega) ⟨hn, hm⟩
    have x0 := zgp_le2 (fun z => P 205 (120 * d + z)) 0 (P 204 (3 * d + 0)).toNat
    have x1 := zgp_le2 (fun z => P 205 (120 * d + z)) 40 (P 204 (3 * d + 1)).toNat
    have x2 := zgp_le2 (fun z => P 205 (120 * d + z)) 80 (P 204 (3 * d + 2)).toNat
    have z0 : 3 * d + 0 = 3 * d := by omega
    rw [z0] at x0 g a1 a2 a3
    have r : ∀ n m, zex 213 0 [] [(2, 178), (0, d), (9, 0), (9, 0), (9, 0), (9, 0)] P (zKs, n, m) = zex 213 12 [] [(2, 178), (0, d), (0, 0), (0, zga M (78 + 17 * d)), (0, 3), (0, P 204 (3 * d + 2))] P (zKs, n, m) := fun n m => by
      simp only [q213_0, l1, zk_178, ↓reduceIte, Int.reduceEq, Int.reduceLE, Int.reduceLT, Int.reduceAdd, Int.reduceSub, Int.reduceMul, Int.reduceNeg, zg_T, zbI_ok, zbL_ok, zbN_ok, zite1, zite2, zite3, zem, Int.cast_ofNat_Int, and_self, and_true, true_and, or_true, true_or, or_self, ite_not, if_true, if_false, not_true_eq_false, not_false_eq_true]
      rw [q213_12, if_neg (by omega), e213_l r1 hd (a := 0) (by omega) (by rw [z0]; exact a3) (P 204 (3 * d)).toNat 0 0 (by omega) (by rw [z0]; omega) (by omega) (by omega), q213_12]
      simp only [Int.zero_add, Int.mul_zero, Int.add_zero, ↓reduceIte, Int.reduceEq, Int.reduceLE, Int.reduceLT, Int.reduceAdd, Int.reduceSub, Int.reduceMul, Int.reduceNeg, zg_T, zbI_ok, zbL_ok, zbN_ok, zite1, zite2, zite3, zem, Int.cast_ofNat_Int, and_self, and_true, true_and, or_true, true_or, or_self, ite_not, if_true, if_false, not_true_eq_false, not_false_eq_true]
      rw [e213_l r1 hd (a := 1) (by omega) b3 (P 204 (3 * d + 1)).toNat 0 _ (by omega) (by omega) (by omega) (by omega), q213_12]
      simp only [Int.zero_add, Int.mul_one, Int.add_zero, ↓reduceIte, Int.reduceEq, Int.reduceLE, Int.reduceLT, Int.reduceAdd, Int.reduceSub, Int.reduceMul, Int.reduceNeg, zg_T, zbI_ok, zbL_ok, zbN_ok, zite1, zite2, zite3, zem, Int.cast_ofNat_Int, and_self, and_true, true_and, or_true, true_or, or_self, ite_not, if_true, if_false, not_true_eq_false, not_false_eq_true]
      rw [e213_l r1 hd (a := 2) (by omega) c3 (P 204 (3 * d + 2)).toNat 0 _ (by omega) (by omega) (by omega) (by omega), g]
      simp only [Int.add_zero, ↓reduceIte, Int.reduceEq, Int.reduceLE, Int.reduceLT, Int.reduceAdd, Int.reduceSub, Int.reduceMul, Int.reduceNeg, zg_T, zbI_ok, zbL_ok, zbN_ok, zite1, zite2, zite3, zem, Int.cast_ofNat_Int, and_self, and_true, true_and, or_true, true_or, or_self, ite_not, if_true, if_false, not_true_eq_false, not_false_eq_true]
    by_cases hz : zga M (78 + 17 * d) ≤ 0
    · have hz' : zga M (78 + 17 * d) = 0 := by omega
      rw [if_pos hz] at k7
      refine ⟨-15, _, _, n, m, ?_, zCf.rfl.zu (a := 1) (b := 9) (v := P 178 25 + 1) (by omega), ?_, zRf.rfl.zu (a := 178) (b := 25) (v := P 178 25 + 1) (by omega), zRel_ref h, by omega, by omega⟩
      · simp (disch := omega) only [q126_0, l2, zk_1, zk_75, zp_1_8 r0, zrp75 r0 hd, (zrk75 n m hd).1, (zrp76 r0 hd).2, zg_pos, ↓reduceIte, Int.reduceEq, Int.reduceLE, Int.reduceLT, Int.reduceAdd, Int.reduceSub, Int.reduceMul, Int.reduceNeg, zg_T, zbI_ok, zbL_ok, zbN_ok, zite1, zite2, zite3, zem, Int.cast_ofNat_Int, and_self, and_true, true_and, or_true, true_or, or_self, ite_not, if_true, if_false, not_true_eq_false, not_false_eq_true]
        rw [e126_n ca.2.1 k7]
        simp only [q126_14, zk_1, zrf1 h hq, ↓reduceIte, Int.reduceEq, Int.reduceLE, Int.reduceLT, Int.reduceAdd, Int.reduceSub, Int.reduceMul, Int.reduceNeg, zg_T, zbI_ok, zbL_ok, zbN_ok, zite1, zite2, zite3, zem, Int.cast_ofNat_Int, and_self, and_true, true_and, or_true, true_or, or_self, ite_not, if_true, if_false, not_true_eq_false, not_false_eq_true]
      · rw [r, q213_12, hz']
        simp only [q213_58, zk_178, zrf2 h hq, ↓reduceIte, Int.reduceEq, Int.reduceLE, Int.reduceLT, Int.reduceAdd, Int.reduceSub, Int.reduceMul, Int.reduceNeg, zg_T, zbI_ok, zbL_ok, zbN_ok, zite1, zite2, zite3, zem, Int.cast_ofNat_Int, and_self, and_true, true_and, or_true, true_or, or_self, ite_not, if_true, if_false, not_true_eq_false, not_false_eq_true]
    · rw [if_neg hz] at k7
      have hz' : ¬ zga M (78 + 17 * d) = 0 := by omega
      refine ⟨zga M (78 + 17 * d), M, P, n - 1, m - 6, ?_, zCf.rfl, ?_, zRf.rfl, h.mono (by omega), by omega, by omega⟩
      · have k6 := e6 (d := (9, 0)) (d' := (9, 0)) (zCaT r0 (n - 1) (m - 6) hd) (by omega) (by omega) (by omega)
        simp (disch := omega) only [q126_0, l2, zk_1, zk_75, zp_1_8 r0, zrp75 r0 hd, (zrk75 n m hd).1, (zrp76 r0 hd).2, zg_pos, ↓reduceIte, Int.reduceEq, Int.reduceLE, Int.reduceLT, Int.reduceAdd, Int.reduceSub, Int.reduceMul, Int.reduceNeg, zg_T, zbI_ok, zbL_ok, zbN_ok, zite1, zite2, zite3, zem, Int.cast_ofNat_Int, and_self, and_true, true_and, or_true, true_or, or_self, ite_not, if_true, if_false, not_true_eq_false, not_false_eq_true]
        rw [e126_t ca.2.1 k7 (by omega)]
        simp (disch := omega) only [q126_16, zk_1, zk_75, zp_1_8 r0, zrp75 r0 hd, (zrk75 (n - 1) (m - 6) hd).1, (zrp76 r0 hd).2, (zCaT r0 (n - 1) (m - 6) hd).2.1, k6, zg_pos, ↓reduceIte, Int.reduceEq, Int.reduceLE, Int.reduceLT, Int.reduceAdd, Int.reduceSub, Int.reduceMul, Int.reduceNeg, zg_T, zbI_ok, zbL_ok, zbN_ok, zite1, zite2, zite3, zem, Int.cast_ofNat_Int, and_self, and_true, true_and, or_true, true_or, or_self, ite_not, if_true, if_false, not_true_eq_false, not_false_eq_true]
      · rw [r, q213_12]
        simp only [q213_58, hz', ↓reduceIte, Int.reduceEq, Int.reduceLE, Int.reduceLT, Int.reduceAdd, Int.reduceSub, Int.reduceMul, Int.reduceNeg, zg_T, zbI_ok, zbL_ok, zbN_ok, zite1, zite2, zite3, zem, Int.cast_ofNat_Int, and_self, and_true, true_and, or_true, true_or, or_self, ite_not, if_true, if_false, not_true_eq_false, not_false_eq_true]
