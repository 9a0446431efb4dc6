/-! WIND, and the reference's gaps -/
theorem zgp_le2 (f : Int → Int) (i : Int) (n : Nat) : 0 ≤ zsm (zgp f) i n ∧ zsm (zgp f) i n ≤ n := by
  have := zsm_le (f := zgp f) (a := 0) (b := 1) n i (fun k _ _ => by unfold zgp; split <;> omega)
  omega
theorem e160 {P : zM} {n m : Nat} {d d' d'' : zV} (r1 : zPR P) (h0 : 0 ≤ P 179 0 ∧ P 179 0 ≤ 40) (h1 : 0 ≤ P 179 1 ∧ P 179 1 ≤ 40) (h2 : 0 ≤ P 179 2 ∧ P 179 2 ≤ 40) : zex 160 0 [] [(2, 178), d, d', d''] P (zKs, n, m) = some ((0, zun0 P), P, (zKs, n, m)) := by
  have b0 := zgp_le2 (P 180) 0 (P 179 0).toNat
  have b1 := zgp_le2 (P 180) 40 (P 179 1).toNat
  rw [q160_0, q160_4, if_neg (by omega), e160_l r1 (a := 0) (by omega) h0.2 (P 179 0).toNat 0 0 (by omega) (by omega) (by omega) (by omega), q160_4]
  simp only [Int.zero_add, Int.mul_zero, Int.add_zero, ↓reduceIte, Int.reduceEq, Int.reduceLE, Int.reduceLT, Int.reduceAdd, Int.reduceSub, Int.reduceMul, Int.reduceNeg, zg_T, zbI_ok, zbL_ok, zbN_ok, zite1, zite2, zite3, zem, Int.cast_ofNat_Int, and_self, and_true, true_and, or_true, true_or, or_self, ite_not, if_true, if_false, not_true_eq_false, not_false_eq_true]
  rw [e160_l r1 (a := 1) (by omega) h1.2 (P 179 1).toNat 0 _ (by omega) (by omega) (by omega) (by omega), q160_4]
  simp only [Int.zero_add, Int.mul_one, Int.add_zero, ↓reduceIte, Int.reduceEq, Int.reduceLE, Int.reduceLT, Int.reduceAdd, Int.reduceSub, Int.reduceMul, Int.reduceNeg, zg_T, zbI_ok, zbL_ok, zbN_ok, zite1, zite2, zite3, zem, Int.cast_ofNat_Int, and_self, and_true, true_and, or_true, true_or, or_self, ite_not, if_true, if_false, not_true_eq_false, not_false_eq_true]
  rw [e160_l r1 (a := 2) (by omega) h2.2 (P 179 2).toNat 0 _ (by omega) (by omega) (by omega) (by omega), q160_4]
  simp only [Int.add_zero, zun0, ↓reduceIte, Int.reduceEq, Int.reduceLE, Int.reduceLT, Int.reduceAdd, Int.reduceSub, Int.reduceMul, Int.reduceNeg, zg_T, zbI_ok, zbL_ok, zbN_ok, zite1, zite2, zite3, zem, Int.cast_ofNat_Int, and_self, and_true, true_and, or_true, true_or, or_self, ite_not, if_true, if_false, not_true_eq_false, not_false_eq_true]
theorem zrf3k {a : Int} (ha : 0 ≤ a ∧ a ≤ 2) (y : Int) : zPCc (5 + 4 * a + 1) y = false ∧ zPCc (5 + 4 * a + 2) y = false ∧ zPCc (5 + 4 * a + 3) y = false := by
  rcases (by omega : a = 0 ∨ a = 1 ∨ a = 2) with rfl | rfl | rfl <;> exact ⟨zPC_row (by decide +kernel), zPC_row (by decide +kernel), zPC_row (by decide +kernel)⟩
theorem o_wind {q : Int} {M P : zM} (h : zRel q M P) (n m : Nat) (a k l w : Int) : zOpn q 93 147 [(0, a), (0, k), (0, l), (0, w), (9, 0)] [(0, a), (0, k), (0, l), (0, w), (9, 0)] M P n m := by
  obtain ⟨⟨r0, r1⟩, rc, rh, rp, rb, rs, rw0, rx, ro, rk, rt, rr⟩ := id h
  have bad : ∀ (e : ¬ ((0 ≤ a ∧ a ≤ 2) ∧ (0 ≤ k ∧ k ≤ 3) ∧ (1 ≤ l ∧ l ≤ 200) ∧ 0 ≤ w ∧ w ≤ 1)), zOpn q 93 147 [(0, a), (0, k), (0, l), (0, w), (9, 0)] [(0, a), (0, k), (0, l), (0, w), (9, 0)] M P n m := by
    intro e
    refine ⟨-1, M, P, ?_, zCf.rfl, ?_, zRf.rfl, h⟩
    · by_cases e1 : 0 ≤ a ∧ a ≤ 2
      · by_cases e2 : 0 ≤ k ∧ k ≤ 3
        · by_cases e3 : 1 ≤ l ∧ l ≤ 200
          · have e4 : ¬ (0 ≤ w ∧ w ≤ 1) := fun c => e ⟨e1, e2, e3, c⟩
            simp only [q93_0, q93_18, e134, e133, e1, e2, e3, e4, ↓reduceIte, Int.reduceEq, Int.reduceLE, Int.reduceLT, Int.reduceAdd, Int.reduceSub, Int.reduceMul, Int.reduceNeg, zg_T, zbI_ok, zbL_ok, zbN_ok, zite1, zite2, zite3, zem, Int.cast_ofNat_Int, and_self, and_true, true_and, or_true, true_or, or_self, ite_not, if_true, if_false, not_true_eq_false, not_false_eq_true]
          · simp only [q93_0, q93_18, e134, e133, e1, e2, e3, ↓reduceIte, Int.reduceEq, Int.reduceLE, Int.reduceLT, Int.reduceAdd, Int.reduceSub, Int.reduceMul, Int.reduceNeg, zg_T, zbI_ok, zbL_ok, zbN_ok, zite1, zite2, zite3, zem, Int.cast_ofNat_Int, and_self, and_true, true_and, or_true, true_or, or_self, ite_not, if_true, if_false, not_true_eq_false, not_false_eq_true]
        · simp only [q93_0, q93_18, e134, e133, e1, e2, ↓reduceIte, Int.reduceEq, Int.reduceLE, Int.reduceLT, Int.reduceAdd, Int.reduceSub, Int.reduceMul, Int.reduceNeg, zg_T, zbI_ok, zbL_ok, zbN_ok, zite1, zite2, zite3, zem, Int.cast_ofNat_Int, and_self, and_true, true_and, or_true, true_or, or_self, ite_not, if_true, if_false, not_true_eq_false, not_false_eq_true]
      · simp only [q93_0, q93_18, e134, e1, ↓reduceIte, Int.reduceEq, Int.reduceLE, Int.reduceLT, Int.reduceAdd, Int.reduceSub, Int.reduceMul, Int.reduceNeg, zg_T, zbI_ok, zbL_ok, zbN_ok, zite1, zite2, zite3, zem, Int.cast_ofNat_Int, and_self, and_true, true_and, or_true, true_or, or_self, ite_not, if_true, if_false, not_true_eq_false, not_false_eq_true]
    · by_cases e1 : 0 ≤ a ∧ a ≤ 2
      · by_cases e2 : 0 ≤ k ∧ k ≤ 3
        · by_cases e3 : 1 ≤ l ∧ l ≤ 200
          · have e4 : ¬ (0 ≤ w ∧ w ≤ 1) := fun c => e ⟨e1, e2, e3, c⟩
            simp only [q147_0, q147_18, e146, e143, e1, e2, e3, e4, ↓reduceIte, Int.reduceEq, Int.reduceLE, Int.reduceLT, Int.reduceAdd, Int.reduceSub, Int.reduceMul, Int.reduceNeg, zg_T, zbI_ok, zbL_ok, zbN_ok, zite1, zite2, zite3, zem, Int.cast_ofNat_Int, and_self, and_true, true_and, or_true, true_or, or_self, ite_not, if_true, if_false, not_true_eq_false, not_false_eq_true]
          · simp only [q147_0, q147_18, e146, e143, e1, e2, e3, ↓reduceIte, Int.reduceEq, Int.reduceLE, Int.reduceLT, Int.reduceAdd, Int.reduceSub, Int.reduceMul, Int.reduceNeg, zg_T, zbI_ok, zbL_ok, zbN_ok, zite1, zite2, zite3, zem, Int.cast_ofNat_Int, and_self, and_true, true_and, or_true, true_or, or_self, ite_not, if_true, if_false, not_true_eq_false, not_false_eq_true]
        · simp only [q147_0, q147_18, e146, e143, e1, e2, ↓reduceIte, Int.reduceEq, Int.reduceLE, Int.reduceLT, Int.reduceAdd, Int.reduceSub, Int.reduceMul, Int.reduceNeg, zg_T, zbI_ok, zbL_ok, zbN_ok, zite1, zite2, zite3, zem, Int.cast_ofNat_Int, and_self, and_true, true_and, or_true, true_or, or_self, ite_not, if_true, if_false, not_true_eq_false, not_false_eq_true]
      · simp only [q147_0, q147_18, e146, e1, ↓reduceIte, Int.reduceEq, Int.reduceLE, Int.reduceLT, Int.reduceAdd, Int.reduceSub, Int.reduceMul, Int.reduceNeg, zg_T, zbI_ok, zbL_ok, zbN_ok, zite1, zite2, zite3, zem, Int.cast_ofNat_Int, and_self, and_true, true_and, or_true, true_or, or_self, ite_not, if_true, if_false, not_true_eq_false, not_false_eq_true]
  by_cases hg : (0 ≤ a ∧ a ≤ 2) ∧ (0 ≤ k ∧ k ≤ 3) ∧ (1 ≤ l ∧ l ≤ 200) ∧ 0 ≤ w ∧ w ≤ 1
  · obtain ⟨ha, hk, hl, hw⟩ := hg
    obtain ⟨g1, g2, g3, g4⟩ := rc a ha.1 ha.2
    rw [show (2 : Int) + 3 + 4 * a = 5 + 4 * a by omega] at g1
    have hcd := zCd3 r0 n m ha
    by_cases hf : P 179 a < 40
    · have c1 := e10 (k := k) (l := l) (w := w) hcd (by omega) (by omega)
      rw [g1] at c1
      have hf2 : ¬ P 179 a = 40 := by omega
      refine ⟨P 179 a + 1, zu (zu (zu (zu M (5 + 4 * a + 1) (P 179 a) k) (5 + 4 * a + 2) (P 179 a) l) (5 + 4 * a + 3) (P 179 a) w) (5 + 4 * a) 0 (P 179 a + 1), zu (zu (zu (zu P 180 (40 * a + P 179 a) k) 181 (40 * a + P 179 a) l) 182 (40 * a + P 179 a) w) 179 a (P 179 a + 1), ?_, (((zCf.rfl.zu (by omega)).zu (by omega)).zu (by omega)).zu (by omega), ?_, (((zRf.rfl.zu (by omega)).zu (by omega)).zu (by omega)).zu (by omega), ⟨zPC_zu (zPC_zu (zPC_zu (zPC_zu r0 (zrf3k ha _).1) (zrf3k ha _).2.1) (zrf3k ha _).2.2) (zrf3 ha), zPR_zu (zPR_zu (zPR_zu (zPR_zu r1 (zPR_row (by decide +kernel))) (zPR_row (by decide +kernel))) (zPR_row (by decide +kernel))) (zPR_row (by decide +kernel))⟩, ?_, (by (simp (disch := omega) only [zun, zun2]; exact rh)), rp.of (by (intros; first | rfl | (simp (disch := omega) only [zun, zun2, and_self]))) (by (intros; first | rfl | (simp (disch := omega) only [zun, zun2, and_self]))) (by (intros; first | rfl | (simp (disch := omega) only [zun, zun2, and_self]))) (by (intros; first | rfl | (simp (disch := omega) only [zun, zun2, and_self]))), rb.of (by (intros; first | rfl | (simp (disch := omega) only [zun, zun2, and_self]))) (by (intros; first | rfl | (simp (disch := omega) only [zun, zun2, and_self]))) (by (intros; first | rfl | (simp (disch := omega) only [zun, zun2, and_self]))), rs.of (by (intros; first | rfl | (simp (disch := omega) only [zun, zun2, and_self]))) (by (intros; first | rfl | (simp (disch := omega) only [zun, zun2, and_self]))) (by (intros; first | rfl | (simp (disch := omega) only [zun, zun2, and_self]))) (by (intros; first | rfl | (simp (disch := omega) only [zun, zun2, and_self]))), rw0.of (by (intros; first | rfl | (simp (disch := omega) only [zun, zun2, and_self]))) (by (intros; first | rfl | (simp (disch := omega) only [zun, zun2, and_self]))) (by (intros; first | rfl | (simp (disch := omega) only [zun, zun2, and_self]))) (by (intros; first | rfl | (simp (disch := omega) only [zun, zun2, and_self]))) (by (intros; first | rfl | (simp (disch := omega) only [zun, zun2, and_self]))) (by (intros; first | rfl | (simp (disch := omega) only [zun, zun2, and_self]))), rx.of (by (intros; first | rfl | (simp (disch := omega) only [zun, zun2, and_self]))) (by (intros; first | rfl | (simp (disch := omega) only [zun, zun2, and_self]))) (by (intros; first | rfl | (simp (disch := omega) only [zun, zun2, and_self]))) (by (intros; first | rfl | (simp (disch := omega) only [zun, zun2, and_self]))), ro.of (by (intros; first | rfl | (simp (disch := omega) only [zun, zun2, and_self]))) (by (intros; first | rfl | (simp (disch := omega) only [zun, zun2, and_self]))) (by (intros; first | rfl | (simp (disch := omega) only [zun, zun2, and_self]))) (by (intros; first | rfl | (simp (disch := omega) only [zun, zun2, and_self]))), rk.of (by (intros; first | rfl | (simp (disch := omega) only [zun, zun2, and_self]))) (by (intros; first | rfl | (simp (disch := omega) only [zun, zun2, and_self]))) (by (intros; first | rfl | (simp (disch := omega) only [zun, zun2, and_self]))) (by (intros; first | rfl | (simp (disch := omega) only [zun, zun2, and_self]))) (by (intros; first | rfl | (simp (disch := omega) only [zun, zun2, and_self]))), rt.of (by (intros; first | rfl | (simp (disch := omega) only [zun, zun2, and_self]))) (by (intros; first | rfl | (simp (disch := omega) only [zun, zun2, and_self]))), (by (simp (disch := omega) only [zun, zun2]; exact rr))⟩
      · simp (disch := omega) only [q93_0, e134, e133, ha, hk, hl, hw, zk_1, zk_2, zk_3, zp_1_0 r0, zp_2_0 r0, zrp3 r0 ha, zrk3 n m ha, g1, hf, c1, zus, zg_pos, ↓reduceIte, Int.reduceEq, Int.reduceLE, Int.reduceLT, Int.reduceAdd, Int.reduceSub, Int.reduceMul, Int.reduceNeg, zg_T, zbI_ok, zbL_ok, zbN_ok, zite1, zite2, zite3, zem, Int.cast_ofNat_Int, and_self, and_true, true_and, or_true, true_or, or_self, ite_not, if_true, if_false, not_true_eq_false, not_false_eq_true]
      · simp (disch := omega) only [q147_0, q147_42, q147_47, q147_52, q147_60, e146, e143, ha, hk, hl, hw, hf2, zk_178, zk_179, zk_180, zk_181, zk_182, zp_178_1 r1, zp_178_2 r1, zp_178_3 r1, zp_178_4 r1, zun, zus, zg_pos, zI, ↓reduceIte, Int.reduceEq, Int.reduceLE, Int.reduceLT, Int.reduceAdd, Int.reduceSub, Int.reduceMul, Int.reduceNeg, zg_T, zbI_ok, zbL_ok, zbN_ok, zite1, zite2, zite3, zem, Int.cast_ofNat_Int, and_self, and_true, true_and, or_true, true_or, or_self, ite_not, if_true, if_false, not_true_eq_false, not_false_eq_true]
      · intro b h0 h2
        obtain ⟨f1, f2, f3, f4⟩ := rc b h0 h2
        by_cases hb : b = a
        · subst hb
          rw [show (2 : Int) + 3 + 4 * b = 5 + 4 * b by omega, zus, zus]
          refine ⟨rfl, by omega, by omega, fun i hi hj => ?_⟩
          by_cases hi2 : i = P 179 b
          · subst hi2
            rw [show (2 : Int) + 4 + 4 * b = 5 + 4 * b + 1 by omega, show (2 : Int) + 5 + 4 * b = 5 + 4 * b + 2 by omega, show (2 : Int) + 6 + 4 * b = 5 + 4 * b + 3 by omega]
            simp (disch := omega) only [zun, zun2, zus]
            exact ⟨trivial, trivial, trivial, hk.1, hk.2, hl.1, hl.2, hw⟩
          · simp (disch := omega) only [zun, zun2]
            exact f4 i hi (by omega)
        · simp (disch := omega) only [zun, zun2]
          refine ⟨f1, f2, f3, fun i hi hj => ?_⟩
          simp (disch := omega) only [zun, zun2]
          exact f4 i hi hj
    · have hf2 : P 179 a = 40 := by omega
      refine ⟨-2, M, P, ?_, zCf.rfl, ?_, zRf.rfl, h⟩
      · simp (disch := omega) only [q93_0, e134, e133, ha, hk, hl, hw, zk_1, zk_2, zk_3, zp_1_0 r0, zp_2_0 r0, zrp3 r0 ha, zrk3 n m ha, g1, hf, zg_pos, ↓reduceIte, Int.reduceEq, Int.reduceLE, Int.reduceLT, Int.reduceAdd, Int.reduceSub, Int.reduceMul, Int.reduceNeg, zg_T, zbI_ok, zbL_ok, zbN_ok, zite1, zite2, zite3, zem, Int.cast_ofNat_Int, and_self, and_true, true_and, or_true, true_or, or_self, ite_not, if_true, if_false, not_true_eq_false, not_false_eq_true]
      · simp (disch := omega) only [q147_0, e146, e143, ha, hk, hl, hw, hf2, zk_178, zk_179, zp_178_1 r1, zg_pos, zI, ↓reduceIte, Int.reduceEq, Int.reduceLE, Int.reduceLT, Int.reduceAdd, Int.reduceSub, Int.reduceMul, Int.reduceNeg, zg_T, zbI_ok, zbL_ok, zbN_ok, zite1, zite2, zite3, zem, Int.cast_ofNat_Int, and_self, and_true, true_and, or_true, true_or, or_self, ite_not, if_true, if_false, not_true_eq_false, not_false_eq_true]
  · exact bad hg
