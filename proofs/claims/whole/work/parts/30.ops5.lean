/-! BLOCK AND COUNT -/
theorem zsm_out {M : zM} {r c v : Int} : ∀ (n : Nat) (i : Int), (c < i ∨ i + n ≤ c) → zsm (zu M r c v r) i n = zsm (M r) i n
  | 0, _, _ => rfl
  | n + 1, i, h => by
    unfold zsm
    rw [zsm_out n (i + 1) (by omega), zun2 (by omega)]
theorem zsm_upd {M : zM} {r c v : Int} : ∀ (n : Nat) (i : Int), i ≤ c → c < i + n → zsm (zu M r c v r) i n = zsm (M r) i n + v - M r c
  | 0, i, h, h' => by omega
  | n + 1, i, h, h' => by
    unfold zsm
    by_cases e : c = i
    · subst e
      rw [zsm_out n (c + 1) (by omega), zus]
      omega
    · rw [zsm_upd n (i + 1) (by omega) (by omega), zun2 (by omega)]
      omega
theorem e35 {M : zM} {n m : Nat} {x y : Int} {d : zV} (h : zPC M) (hx : (0 ≤ x ∧ x ≤ 31) ∧ 0 ≤ y ∧ y ≤ 31) (hb : M 19 (y * 32 + x) = 0 ∨ M 19 (y * 32 + x) = 1) (hc : 0 ≤ M 18 1 ∧ M 18 1 ≤ 1024) : zex 35 0 [] [(2, 18), (0, x), (0, y), d] M (zKs, n, m) = some ((9, 0), zu (zu M 19 (y * 32 + x) (1 - M 19 (y * 32 + x))) 18 1 (M 18 1 + (1 - 2 * M 19 (y * 32 + x))), (zKs, n, m)) := by
  rcases hb with e | e
  · simp (disch := omega) only [q35_0, q35_22, q35_34, e135, hx, e, zk_18, zk_19, zp_18_0 h, zun, zus, zg_pos, zI, Int.sub_zero, Int.mul_zero, ↓reduceIte, Int.reduceEq, Int.reduceLE, Int.reduceLT, Int.reduceAdd, Int.reduceSub, Int.reduceMul, Int.reduceNeg, zg_T, zbI_ok, zbL_ok, zbN_ok, zite1, zite2, zite3, zem, Int.cast_ofNat_Int, and_self, and_true, true_and, or_true, true_or, or_self, ite_not, if_true, if_false, not_true_eq_false, not_false_eq_true]
  · simp (disch := omega) only [q35_0, q35_22, q35_34, e135, hx, e, zk_18, zk_19, zp_18_0 h, zun, zus, zg_pos, zI, Int.sub_self, Int.mul_one, ↓reduceIte, Int.reduceEq, Int.reduceLE, Int.reduceLT, Int.reduceAdd, Int.reduceSub, Int.reduceMul, Int.reduceNeg, zg_T, zbI_ok, zbL_ok, zbN_ok, zite1, zite2, zite3, zem, Int.cast_ofNat_Int, and_self, and_true, true_and, or_true, true_or, or_self, ite_not, if_true, if_false, not_true_eq_false, not_false_eq_true]
theorem o_block {q : Int} {M P : zM} (h : zRel q M P) (n m : Nat) (x y : Int) : zOpn q 99 155 [(0, x), (0, y)] [(0, x), (0, y)] M P n m := by
  obtain ⟨⟨r0, r1⟩, rc, rh, rp, rb, rs, rw0, rx, ro, rk, rt, rr⟩ := id h
  by_cases hx : (0 ≤ x ∧ x ≤ 31) ∧ 0 ≤ y ∧ y ≤ 31
  · have bb := rb.1 (y * 32 + x) (by omega) (by omega)
    have bc := zsm_le (f := P 185) (a := 0) (b := 1) 1024 0 (fun k h1 h2 => by have := (rb.1 k (by omega) (by omega)).2; omega)
    have b4 := rb.2
    have b5 : 32 * y + x = y * 32 + x := by omega
    have c1 := e35 (n := n) (m := m) (d := (9, 0)) r0 hx (by rw [bb.1]; exact bb.2) (by omega)
    rw [bb.1] at c1
    have k0 : zPC (zu (zu M 19 (y * 32 + x) (1 - P 185 (y * 32 + x))) 18 1 (M 18 1 + (1 - 2 * P 185 (y * 32 + x)))) := zPC_zu (zPC_zu r0 (zPC_row (by decide +kernel))) (by decide +kernel)
    have c2 := e36 (n := n) (m := m) (x := x) (y := y) k0
    rw [zun (by omega), zus] at c2
    refine ⟨1 - P 185 (y * 32 + x), zu (zu M 19 (y * 32 + x) (1 - P 185 (y * 32 + x))) 18 1 (M 18 1 + (1 - 2 * P 185 (y * 32 + x))), zu P 185 (y * 32 + x) (1 - P 185 (y * 32 + x)), ?_, (zCf.rfl.zu (by omega)).zu (by omega), ?_, zRf.rfl.zu (by omega), ⟨k0, zPR_zu r1 (zPR_row (by decide +kernel))⟩, rc.of (by (intros; first | rfl | (simp (disch := omega) only [zun, zun2, and_self]))) (by (intros; first | rfl | (simp (disch := omega) only [zun, zun2, and_self]))) (by (intros; first | rfl | (simp (disch := omega) only [zun, zun2, and_self]))), (by (simp (disch := omega) only [zun, zun2]; exact rh)), rp.of (by (intros; first | rfl | (simp (disch := omega) only [zun, zun2, and_self]))) (by (intros; first | rfl | (simp (disch := omega) only [zun, zun2, and_self]))) (by (intros; first | rfl | (simp (disch := omega) only [zun, zun2, and_self]))) (by (intros; first | rfl | (simp (disch := omega) only [zun, zun2, and_self]))), ?_, rs.of (by (intros; first | rfl | (simp (disch := omega) only [zun, zun2, and_self]))) (by (intros; first | rfl | (simp (disch := omega) only [zun, zun2, and_self]))) (by (intros; first | rfl | (simp (disch := omega) only [zun, zun2, and_self]))) (by (intros; first | rfl | (simp (disch := omega) only [zun, zun2, and_self]))), rw0.of (by (intros; first | rfl | (simp (disch := omega) only [zun, zun2, and_self]))) (by (intros; first | rfl | (simp (disch := omega) only [zun, zun2, and_self]))) (by (intros; first | rfl | (simp (disch := omega) only [zun, zun2, and_self]))) (by (intros; first | rfl | (simp (disch := omega) only [zun, zun2, and_self]))) (by (intros; first | rfl | (simp (disch := omega) only [zun, zun2, and_self]))) (by (intros; first | rfl | (simp (disch := omega) only [zun, zun2, and_self]))), rx.of (by (intros; first | rfl | (simp (disch := omega) only [zun, zun2, and_self]))) (by (intros; first | rfl | (simp (disch := omega) only [zun, zun2, and_self]))) (by (intros; first | rfl | (simp (disch := omega) only [zun, zun2, and_self]))) (by (intros; first | rfl | (simp (disch := omega) only [zun, zun2, and_self]))), ro.of (by (intros; first | rfl | (simp (disch := omega) only [zun, zun2, and_self]))) (by (intros; first | rfl | (simp (disch := omega) only [zun, zun2, and_self]))) (by (intros; first | rfl | (simp (disch := omega) only [zun, zun2, and_self]))) (by (intros; first | rfl | (simp (disch := omega) only [zun, zun2, and_self]))), rk.of (by (intros; first | rfl | (simp (disch := omega) only [zun, zun2, and_self]))) (by (intros; first | rfl | (simp (disch := omega) only [zun, zun2, and_self]))) (by (intros; first | rfl | (simp (disch := omega) only [zun, zun2, and_self]))) (by (intros; first | rfl | (simp (disch := omega) only [zun, zun2, and_self]))) (by (intros; first | rfl | (simp (disch := omega) only [zun, zun2, and_self]))), rt.of (by (intros; first | rfl | (simp (disch := omega) only [zun, zun2, and_self]))) (by (intros; first | rfl | (simp (disch := omega) only [zun, zun2, and_self]))), (by (simp (disch := omega) only [zun, zun2]; exact rr))⟩
    · simp (disch := omega) only [q99_0, q99_20, e135, hx, zk_1, zk_18, zp_1_2 r0, zp_1_2 k0, c1, c2, zg_pos, ↓reduceIte, Int.reduceEq, Int.reduceLE, Int.reduceLT, Int.reduceAdd, Int.reduceSub, Int.reduceMul, Int.reduceNeg, zg_T, zbI_ok, zbL_ok, zbN_ok, zite1, zite2, zite3, zem, Int.cast_ofNat_Int, and_self, and_true, true_and, or_true, true_or, or_self, ite_not, if_true, if_false, not_true_eq_false, not_false_eq_true]
      rcases bb.2 with e | e <;> simp only [e, ↓reduceIte, Int.reduceEq, Int.reduceLE, Int.reduceLT, Int.reduceAdd, Int.reduceSub, Int.reduceMul, Int.reduceNeg, zg_T, zbI_ok, zbL_ok, zbN_ok, zite1, zite2, zite3, zem, Int.cast_ofNat_Int, and_self, and_true, true_and, or_true, true_or, or_self, ite_not, if_true, if_false, not_true_eq_false, not_false_eq_true]
    · rcases bb.2 with e | e <;> simp (disch := omega) only [q155_0, q155_25, q155_38, e153, hx, b5, e, zk_178, zk_185, zp_178_9 r1, zun, zus, zg_pos, zI, ↓reduceIte, Int.reduceEq, Int.reduceLE, Int.reduceLT, Int.reduceAdd, Int.reduceSub, Int.reduceMul, Int.reduceNeg, zg_T, zbI_ok, zbL_ok, zbN_ok, zite1, zite2, zite3, zem, Int.cast_ofNat_Int, and_self, and_true, true_and, or_true, true_or, or_self, ite_not, if_true, if_false, not_true_eq_false, not_false_eq_true]
    · refine ⟨fun z h1 h2 => ?_, ?_⟩
      · rw [zun (by omega)]
        by_cases e : z = y * 32 + x
        · subst e
          rw [zus, zus]
          exact ⟨rfl, by omega⟩
        · rw [zun2 e, zun2 e]
          exact rb.1 z h1 h2
      · rw [zus, zsm_upd _ _ (by omega) (by omega), b4]
        omega
  · refine ⟨-1, M, P, ?_, zCf.rfl, ?_, zRf.rfl, h⟩
    · simp only [q99_0, e135, hx, ↓reduceIte, Int.reduceEq, Int.reduceLE, Int.reduceLT, Int.reduceAdd, Int.reduceSub, Int.reduceMul, Int.reduceNeg, zg_T, zbI_ok, zbL_ok, zbN_ok, zite1, zite2, zite3, zem, Int.cast_ofNat_Int, and_self, and_true, true_and, or_true, true_or, or_self, ite_not, if_true, if_false, not_true_eq_false, not_false_eq_true]
    · simp only [q155_0, e153, hx, ↓reduceIte, Int.reduceEq, Int.reduceLE, Int.reduceLT, Int.reduceAdd, Int.reduceSub, Int.reduceMul, Int.reduceNeg, zg_T, zbI_ok, zbL_ok, zbN_ok, zite1, zite2, zite3, zem, Int.cast_ofNat_Int, and_self, and_true, true_and, or_true, true_or, or_self, ite_not, if_true, if_false, not_true_eq_false, not_false_eq_true]
