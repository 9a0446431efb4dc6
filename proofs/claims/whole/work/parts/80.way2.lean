/-! WAYS: the class's lines -/
theorem e43 {M : zM} {n m : Nat} {a x v : Int} (r0 : zPC M) (ha : a = 21 ∨ a = 23) (hx : 0 ≤ x ∧ x < 2048) (hl : 0 ≤ M a 2 ∧ (v < M 20 x → M a 2 < 2048)) : zex 43 0 [] [(2, 18), (0, x), (0, v), (2, a)] M (zKs, n, m) = some ((9, 0), if M 20 x ≤ v then M else zu (zu (zu M 20 x v) (a + 1) (M a 2) x) a 2 (M a 2 + 1), (zKs, n, m)) := by
  by_cases e : M 20 x ≤ v
  · rw [if_pos e]
    simp (disch := omega) only [q43_0, q43_14, e, zk_18, zk_20, zp_18_2 r0, zg_pos, zI, ↓reduceIte, Int.reduceEq, Int.reduceLE, Int.reduceLT, Int.reduceAdd, Int.reduceSub, Int.reduceMul, Int.reduceNeg, zg_T, zbI_ok, zbL_ok, zbN_ok, zite1, zite2, zite3, zem, Int.cast_ofNat_Int, and_self, and_true, true_and, or_true, true_or, or_self, ite_not, if_true, if_false, not_true_eq_false, not_false_eq_true]
  · rw [if_neg e]
    have h2 := hl.2 (by omega)
    rcases ha with rfl | rfl
    · have c := e47 (M := zu M 20 x v) (X := (zKs, n, m)) (r := 21) (s := x) (zk_21 n m) (zk_22 n m) (by rw [zun (by omega)]; exact zp_21_0 r0) (by omega) (by rw [zun (by omega)]; omega)
      rw [zun (show (21 : Int) ≠ 20 by omega)] at c
      simp (disch := omega) only [q43_0, q43_14, e, c, zk_18, zk_20, zk_21, zp_18_2 r0, zg_pos, zI, ↓reduceIte, Int.reduceEq, Int.reduceLE, Int.reduceLT, Int.reduceAdd, Int.reduceSub, Int.reduceMul, Int.reduceNeg, zg_T, zbI_ok, zbL_ok, zbN_ok, zite1, zite2, zite3, zem, Int.cast_ofNat_Int, and_self, and_true, true_and, or_true, true_or, or_self, ite_not, if_true, if_false, not_true_eq_false, not_false_eq_true]
    · have c := e47 (M := zu M 20 x v) (X := (zKs, n, m)) (r := 23) (s := x) (zk_23 n m) (zk_24 n m) (by rw [zun (by omega)]; exact zp_23_0 r0) (by omega) (by rw [zun (by omega)]; omega)
      rw [zun (show (23 : Int) ≠ 20 by omega)] at c
      simp (disch := omega) only [q43_0, q43_14, e, c, zk_18, zk_20, zk_23, zp_18_2 r0, zg_pos, zI, ↓reduceIte, Int.reduceEq, Int.reduceLE, Int.reduceLT, Int.reduceAdd, Int.reduceSub, Int.reduceMul, Int.reduceNeg, zg_T, zbI_ok, zbL_ok, zbN_ok, zite1, zite2, zite3, zem, Int.cast_ofNat_Int, and_self, and_true, true_and, or_true, true_or, or_self, ite_not, if_true, if_false, not_true_eq_false, not_false_eq_true]
/-- a line's bounds -/
def zLi (M : zM) (a : Int) : Prop := (0 ≤ M a 1 ∧ M a 1 ≤ M a 2 ∧ M a 2 ≤ 2048) ∧ ∀ i, 0 ≤ i → i < M a 2 → 0 ≤ M (a + 1) i ∧ M (a + 1) i < 2048
/-- which line is taken from: 21 where its first is not farther -/
def zTk (M : zM) : Int := if M 23 1 < M 23 2 then (if M 21 1 < M 21 2 then (if M 20 (M 22 (M 21 1)) ≤ M 20 (M 24 (M 23 1)) then 21 else 23) else 23) else 21
theorem e41 {M : zM} {n m : Nat} (r0 : zPC M) (h1 : zLi M 21) (h2 : zLi M 23) (hne : M 21 1 < M 21 2 ∨ M 23 1 < M 23 2) : zex 41 0 [] [(2, 18)] M (zKs, n, m) = some ((0, M (zTk M + 1) (M (zTk M) 1)), zu M (zTk M) 1 (M (zTk M) 1 + 1), (zKs, n, m)) := by
  obtain ⟨⟨a1, a2, a3⟩, a4⟩ := h1
  obtain ⟨⟨b1, b2, b3⟩, b4⟩ := h2
  simp only [Int.reduceAdd] at a4 b4
  have k21 := zk_21 n m
  have k22 := zk_22 n m
  have k23 := zk_23 n m
  have k24 := zk_24 n m
  have s1 := e46 (M := M) k21
  have s2 := e46 (M := M) k23
  unfold zTk
  by_cases f2 : M 23 1 < M 23 2
  · rw [if_pos f2] at s2 ⊢
    have c3 := b4 _ b1 f2
    have t2 := e48 (M := M) k23 k24 (zp_23_0 r0) (by omega) ⟨b1, b3⟩
    rw [if_pos f2] at t2
    have u2 := e49 (M := M) k23 k24 (zp_23_0 r0) (by omega) b1 f2 b3
    by_cases f1 : M 21 1 < M 21 2
    · rw [if_pos f1] at s1 ⊢
      have c4 := a4 _ a1 f1
      have t1 := e48 (M := M) k21 k22 (zp_21_0 r0) (by omega) ⟨a1, a3⟩
      rw [if_pos f1] at t1
      have u1 := e49 (M := M) k21 k22 (zp_21_0 r0) (by omega) a1 f1 a3
      simp only [Int.reduceAdd] at t1 t2 u1 u2
      by_cases f : M 20 (M 22 (M 21 1)) ≤ M 20 (M 24 (M 23 1))
      · rw [if_pos f]
        simp (disch := omega) only [q41_0, q41_36, s1, s2, t1, t2, u1, f, zk_18, zk_20, zk_21, zk_23, zp_18_2 r0, zp_18_3 r0, zp_18_4 r0, zg_pos, zI, ↓reduceIte, Int.reduceEq, Int.reduceLE, Int.reduceLT, Int.reduceAdd, Int.reduceSub, Int.reduceMul, Int.reduceNeg, zg_T, zbI_ok, zbL_ok, zbN_ok, zite1, zite2, zite3, zem, Int.cast_ofNat_Int, and_self, and_true, true_and, or_true, true_or, or_self, ite_not, if_true, if_false, not_true_eq_false, not_false_eq_true]
      · rw [if_neg f]
        simp (disch := omega) only [q41_0, q41_36, s1, s2, t1, t2, u2, f, zk_18, zk_20, zk_21, zk_23, zp_18_2 r0, zp_18_3 r0, zp_18_4 r0, zg_pos, zI, ↓reduceIte, Int.reduceEq, Int.reduceLE, Int.reduceLT, Int.reduceAdd, Int.reduceSub, Int.reduceMul, Int.reduceNeg, zg_T, zbI_ok, zbL_ok, zbN_ok, zite1, zite2, zite3, zem, Int.cast_ofNat_Int, and_self, and_true, true_and, or_true, true_or, or_self, ite_not, if_true, if_false, not_true_eq_false, not_false_eq_true]
    · rw [if_neg f1] at s1 ⊢
      simp only [Int.reduceAdd] at u2
      simp (disch := omega) only [q41_0, s1, s2, u2, zk_18, zk_21, zk_23, zp_18_3 r0, zp_18_4 r0, zg_pos, zI, ↓reduceIte, Int.reduceEq, Int.reduceLE, Int.reduceLT, Int.reduceAdd, Int.reduceSub, Int.reduceMul, Int.reduceNeg, zg_T, zbI_ok, zbL_ok, zbN_ok, zite1, zite2, zite3, zem, Int.cast_ofNat_Int, and_self, and_true, true_and, or_true, true_or, or_self, ite_not, if_true, if_false, not_true_eq_false, not_false_eq_true]
  · rw [if_neg f2] at s2 ⊢
    have f1 : M 21 1 < M 21 2 := hne.resolve_right f2
    have u1 := e49 (M := M) k21 k22 (zp_21_0 r0) (by omega) a1 f1 a3
    simp only [Int.reduceAdd] at u1
    simp (disch := omega) only [q41_0, s2, u1, zk_18, zk_21, zk_23, zp_18_3 r0, zp_18_4 r0, zg_pos, zI, ↓reduceIte, Int.reduceEq, Int.reduceLE, Int.reduceLT, Int.reduceAdd, Int.reduceSub, Int.reduceMul, Int.reduceNeg, zg_T, zbI_ok, zbL_ok, zbN_ok, zite1, zite2, zite3, zem, Int.cast_ofNat_Int, and_self, and_true, true_and, or_true, true_or, or_self, ite_not, if_true, if_false, not_true_eq_false, not_false_eq_true]
