/-! WINDINGS: one cord, on either side -/
/-- the cord at c against the reference's made cord a -/
def zWn (M P : zM) (c a : Int) : Prop := M c 0 = P 217 a ∧ (0 ≤ P 217 a ∧ P 217 a ≤ 40) ∧ ∀ i, 0 ≤ i → i < P 217 a → M (c + 1) i = P 218 (40 * a + i) ∧ M (c + 2) i = P 219 (40 * a + i) ∧ M (c + 3) i = 0 ∧ (0 ≤ P 218 (40 * a + i) ∧ P 218 (40 * a + i) ≤ 2) ∧ 1 ≤ P 219 (40 * a + i) ∧ P 219 (40 * a + i) ≤ 200
/-- units of the kind k go on with the last segment -/
def zmg (P : zM) (a k : Int) : Prop := 0 < P 217 a ∧ P 218 (40 * a + P 217 a - 1) = k ∧ P 219 (40 * a + P 217 a - 1) < 200
theorem e184_m {P : zM} {n m : Nat} {a k u left : Int} {d5 d6 d7 : zV} (r1 : zPR P) (ha : 0 ≤ a ∧ a ≤ 2) (hl : 1 ≤ left ∧ left ≤ 200) (hm : P 178 63 = 0) (hn : 1 ≤ P 217 a ∧ P 217 a ≤ 40) (hk : P 218 (40 * a + P 217 a - 1) = k) (hL : 0 ≤ P 219 (40 * a + P 217 a - 1) ∧ P 219 (40 * a + P 217 a - 1) < 200) : ∃ e5 e6 e7, zex 184 2 [] [(2, 178), (0, a), (0, k), (0, u), (0, left), d5, d6, d7] P (zKs, n, m) = zex 184 2 [] [(2, 178), (0, a), (0, k), (0, u), (0, left - min left (200 - P 219 (40 * a + P 217 a - 1))), e5, e6, e7] (zu P 219 (40 * a + P 217 a - 1) (P 219 (40 * a + P 217 a - 1) + min left (200 - P 219 (40 * a + P 217 a - 1)))) (zKs, n, m) := by
  obtain ⟨hn1, hn2⟩ := hn
  obtain ⟨hL1, hL2⟩ := hL
  have n0 : ¬ left ≤ 0 := by omega
  have n1 : ¬ P 217 a ≤ 0 := by omega
  have n2 : ¬ 200 ≤ P 219 (40 * a + P 217 a - 1) := by omega
  have s1 : zex 184 2 [] [(2, 178), (0, a), (0, k), (0, u), (0, left), d5, d6, d7] P (zKs, n, m) = zex 184 38 [(0, 1)] [(2, 178), (0, a), (0, k), (0, u), (0, left), (0, 40 * a + P 217 a - 1), d6, d7] P (zKs, n, m) := by
    simp (disch := omega) only [q184_2, n0, n1, n2, hm, hk, zk_178, zk_217, zk_218, zk_219, zp_178_60 r1, zp_178_61 r1, zp_178_62 r1, zg_pos, zI, ↓reduceIte, Int.reduceEq, Int.reduceLE, Int.reduceLT, Int.reduceAdd, Int.reduceSub, Int.reduceMul, Int.reduceNeg, zg_T, zbI_ok, zbL_ok, zbN_ok, zite1, zite2, zite3, zem, Int.cast_ofNat_Int, and_self, and_true, true_and, or_true, true_or, or_self, ite_not, if_true, if_false, not_true_eq_false, not_false_eq_true]
  generalize hj : 40 * a + P 217 a - 1 = j at s1 hk hL1 hL2 n2 ⊢
  have s2 : zex 184 38 [(0, 1)] [(2, 178), (0, a), (0, k), (0, u), (0, left), (0, j), d6, d7] P (zKs, n, m) = zex 184 92 [(0, min left (200 - P 219 j))] [(2, 178), (0, a), (0, k), (0, u), (0, left), (0, j), (0, 1), d7] P (zKs, n, m) := by
    by_cases e : 200 - P 219 j ≤ left
    · rw [show min left (200 - P 219 j) = 200 - P 219 j by omega]
      simp (disch := omega) only [q184_38, q184_51, e, zk_178, zk_219, zp_178_62 r1, zg_pos, zI, ↓reduceIte, Int.reduceEq, Int.reduceLE, Int.reduceLT, Int.reduceAdd, Int.reduceSub, Int.reduceMul, Int.reduceNeg, zg_T, zbI_ok, zbL_ok, zbN_ok, zite1, zite2, zite3, zem, Int.cast_ofNat_Int, and_self, and_true, true_and, or_true, true_or, or_self, ite_not, if_true, if_false, not_true_eq_false, not_false_eq_true]
    · rw [show min left (200 - P 219 j) = left by omega]
      simp (disch := omega) only [q184_38, q184_51, e, zk_178, zk_219, zp_178_62 r1, zg_pos, zI, ↓reduceIte, Int.reduceEq, Int.reduceLE, Int.reduceLT, Int.reduceAdd, Int.reduceSub, Int.reduceMul, Int.reduceNeg, zg_T, zbI_ok, zbL_ok, zbN_ok, zite1, zite2, zite3, zem, Int.cast_ofNat_Int, and_self, and_true, true_and, or_true, true_or, or_self, ite_not, if_true, if_false, not_true_eq_false, not_false_eq_true]
  generalize hv : min left (200 - P 219 j) = v at s2 ⊢
  refine ⟨(0, j), (0, 1), (0, v), ?_⟩
  rw [s1, s2]
  simp (disch := omega) only [q184_92, q184_101, q184_105, zk_178, zk_219, zp_178_62 r1, zg_pos, zI, ↓reduceIte, Int.reduceEq, Int.reduceLE, Int.reduceLT, Int.reduceAdd, Int.reduceSub, Int.reduceMul, Int.reduceNeg, zg_T, zbI_ok, zbL_ok, zbN_ok, zite1, zite2, zite3, zem, Int.cast_ofNat_Int, and_self, and_true, true_and, or_true, true_or, or_self, ite_not, if_true, if_false, not_true_eq_false, not_false_eq_true]
theorem e184_s {P : zM} {n m : Nat} {a k u left : Int} {d5 d6 d7 : zV} (r1 : zPR P) (ha : 0 ≤ a ∧ a ≤ 2) (hl : 1 ≤ left ∧ left ≤ 200) (hm : P 178 63 = 0) (hn : 0 ≤ P 217 a ∧ P 217 a ≤ 40) (hk : ¬ zmg P a k) : zex 184 2 [] [(2, 178), (0, a), (0, k), (0, u), (0, left), d5, d6, d7] P (zKs, n, m) = zex 184 38 [(0, 0)] [(2, 178), (0, a), (0, k), (0, u), (0, left), (0, 40 * a + P 217 a - 1), d6, d7] P (zKs, n, m) := by
  have n0 : ¬ left ≤ 0 := by omega
  by_cases e1 : P 217 a ≤ 0
  · simp (disch := omega) only [q184_2, q184_37, n0, e1, hm, zk_178, zk_217, zk_218, zk_219, zp_178_60 r1, zp_178_61 r1, zp_178_62 r1, zg_pos, zI, ↓reduceIte, Int.reduceEq, Int.reduceLE, Int.reduceLT, Int.reduceAdd, Int.reduceSub, Int.reduceMul, Int.reduceNeg, zg_T, zbI_ok, zbL_ok, zbN_ok, zite1, zite2, zite3, zem, Int.cast_ofNat_Int, and_self, and_true, true_and, or_true, true_or, or_self, ite_not, if_true, if_false, not_true_eq_false, not_false_eq_true]
  · by_cases e2 : P 218 (40 * a + P 217 a - 1) = k
    · have e3 : 200 ≤ P 219 (40 * a + P 217 a - 1) := by
        by_cases e : P 219 (40 * a + P 217 a - 1) < 200
        · exact absurd ⟨by omega, e2, e⟩ hk
        · omega
      simp (disch := omega) only [q184_2, q184_37, n0, e1, e2, e3, hm, zk_178, zk_217, zk_218, zk_219, zp_178_60 r1, zp_178_61 r1, zp_178_62 r1, zg_pos, zI, ↓reduceIte, Int.reduceEq, Int.reduceLE, Int.reduceLT, Int.reduceAdd, Int.reduceSub, Int.reduceMul, Int.reduceNeg, zg_T, zbI_ok, zbL_ok, zbN_ok, zite1, zite2, zite3, zem, Int.cast_ofNat_Int, and_self, and_true, true_and, or_true, true_or, or_self, ite_not, if_true, if_false, not_true_eq_false, not_false_eq_true]
    · simp (disch := omega) only [q184_2, q184_37, n0, e1, e2, hm, zk_178, zk_217, zk_218, zk_219, zp_178_60 r1, zp_178_61 r1, zp_178_62 r1, zg_pos, zI, ↓reduceIte, Int.reduceEq, Int.reduceLE, Int.reduceLT, Int.reduceAdd, Int.reduceSub, Int.reduceMul, Int.reduceNeg, zg_T, zbI_ok, zbL_ok, zbN_ok, zite1, zite2, zite3, zem, Int.cast_ofNat_Int, and_self, and_true, true_and, or_true, true_or, or_self, ite_not, if_true, if_false, not_true_eq_false, not_false_eq_true]
/-- the units are all wound, or there is no room (the flag stands) -/
theorem e184_0 {P : zM} {n m : Nat} {a k u left : Int} {d5 d6 d7 : zV} (h : left ≤ 0 ∨ P 178 63 = 1) : zex 184 2 [] [(2, 178), (0, a), (0, k), (0, u), (0, left), d5, d6, d7] P (zKs, n, m) = some ((9, 0), P, (zKs, n, m)) := by
  by_cases e : left ≤ 0
  · rw [q184_2, if_pos e, q184_106]
  · rw [q184_2, if_neg e, zg_pos (zk_178 n m), if_neg (by omega), q184_106]
theorem e184_f {P : zM} {n m : Nat} {a k u left : Int} {d5 d6 d7 : zV} (r1 : zPR P) (ha : 0 ≤ a ∧ a ≤ 2) (hl : 1 ≤ left ∧ left ≤ 200) (hm : P 178 63 = 0) (hn : P 217 a = 40) (hk : ¬ zmg P a k) : zex 184 2 [] [(2, 178), (0, a), (0, k), (0, u), (0, left), d5, d6, d7] P (zKs, n, m) = some ((9, 0), zu P 178 63 1, (zKs, n, m)) := by
  rw [e184_s r1 ha hl hm (by omega) hk]
  generalize 40 * a + P 217 a - 1 = j
  have s1 : zex 184 38 [(0, 0)] [(2, 178), (0, a), (0, k), (0, u), (0, left), (0, j), d6, d7] P (zKs, n, m) = zex 184 2 [] [(2, 178), (0, a), (0, k), (0, u), (0, left), (0, j), (0, 0), d7] (zu P 178 63 1) (zKs, n, m) := by
    simp (disch := omega) only [q184_38, q184_50, q184_105, hn, zk_178, zk_217, zp_178_60 r1, zg_pos, zI, ↓reduceIte, Int.reduceEq, Int.reduceLE, Int.reduceLT, Int.reduceAdd, Int.reduceSub, Int.reduceMul, Int.reduceNeg, zg_T, zbI_ok, zbL_ok, zbN_ok, zite1, zite2, zite3, zem, Int.cast_ofNat_Int, and_self, and_true, true_and, or_true, true_or, or_self, ite_not, if_true, if_false, not_true_eq_false, not_false_eq_true]
  rw [s1, e184_0 (.inr zus)]
theorem e184_n {P : zM} {n m : Nat} {a k u left : Int} {d5 d6 d7 : zV} (r1 : zPR P) (ha : 0 ≤ a ∧ a ≤ 2) (hl : 1 ≤ left ∧ left ≤ 200) (hm : P 178 63 = 0) (hn : 0 ≤ P 217 a ∧ P 217 a < 40) (hk : ¬ zmg P a k) : zex 184 2 [] [(2, 178), (0, a), (0, k), (0, u), (0, left), d5, d6, d7] P (zKs, n, m) = some ((9, 0), zu (zu (zu (zu P 218 (40 * a + P 217 a) k) 219 (40 * a + P 217 a) 0) 217 a (P 217 a + 1)) 219 (40 * a + P 217 a) left, (zKs, n, m)) := by
  rw [e184_s r1 ha hl hm (by omega) hk]
  have n40 : ¬ P 217 a = 40 := by omega
  obtain ⟨Q, hQ⟩ : ∃ Q, Q = zu (zu (zu P 218 (40 * a + P 217 a) k) 219 (40 * a + P 217 a) 0) 217 a (P 217 a + 1) := ⟨_, rfl⟩
  have s1 : zex 184 38 [(0, 0)] [(2, 178), (0, a), (0, k), (0, u), (0, left), (0, 40 * a + P 217 a - 1), d6, d7] P (zKs, n, m) = zex 184 2 [] [(2, 178), (0, a), (0, k), (0, u), (0, left), (0, 40 * a + P 217 a - 1), (0, 0), d7] Q (zKs, n, m) := by
    have j1 : 40 * a + P 217 a - 1 + 1 = 40 * a + P 217 a := by omega
    simp (disch := omega) only [q184_38, q184_51, q184_60, q184_67, q184_75, q184_105, n40, j1, zk_178, zk_217, zk_218, zk_219, zp_178_60 r1, zp_178_61 r1, zp_178_62 r1, zun, zg_pos, zI, ↓reduceIte, Int.reduceEq, Int.reduceLE, Int.reduceLT, Int.reduceAdd, Int.reduceSub, Int.reduceMul, Int.reduceNeg, zg_T, zbI_ok, zbL_ok, zbN_ok, zite1, zite2, zite3, zem, Int.cast_ofNat_Int, and_self, and_true, true_and, or_true, true_or, or_self, ite_not, if_true, if_false, not_true_eq_false, not_false_eq_true]
    rw [hQ]
  have u1 : ∀ r y, r ≠ 217 → r ≠ 218 → r ≠ 219 → Q r y = P r y := fun r y h1 h2 h3 => by rw [hQ, zun h1, zun h3, zun h2]
  have rQ : zPR Q := zPR_t (fun r y => decide (r = 217 ∨ r = 218 ∨ r = 219)) (by decide +kernel) r1 (fun r y hr => u1 r y (by simp at hr; omega) (by simp at hr; omega) (by simp at hr; omega))
  have q1 : Q 217 a = P 217 a + 1 := by rw [hQ, zus]
  have q2 : Q 218 (40 * a + P 217 a) = k := by rw [hQ, zun (by omega), zun (by omega), zus]
  have q3 : Q 219 (40 * a + P 217 a) = 0 := by rw [hQ, zun (by omega), zus]
  have j2 : 40 * a + Q 217 a - 1 = 40 * a + P 217 a := by rw [q1]; omega
  obtain ⟨e5, e6, e7, s2⟩ := e184_m (n := n) (m := m) (a := a) (k := k) (u := u) (left := left) (d5 := (0, 40 * a + P 217 a - 1)) (d6 := (0, 0)) (d7 := d7) rQ ha hl (by rw [u1 _ _ (by omega) (by omega) (by omega)]; exact hm) (by rw [q1]; omega) (by rw [j2]; exact q2) (by rw [j2, q3]; omega)
  rw [j2, q3, show min left (200 - 0) = left by omega, Int.zero_add, show left - left = 0 by omega, e184_0 (left := 0) (.inl (by omega))] at s2
  rw [s1, s2, hQ]
/-! the class's -/
theorem e11_0 {M : zM} {X : zX} {c k u r : Int} {d4 d5 : zV} (hC : zCd M X c) (hn : 0 ≤ M c 0 ∧ M c 0 ≤ 40) (h : r = 0 ∨ (1 ≤ r ∧ M c 0 = 40)) : zex 11 41 [] [(2, c), (0, k), (0, u), (0, r), d4, d5] M X = some ((0, if r = 0 then 1 else 0), M, X) := by
  have s : zex 11 44 [] [(2, c), (0, k), (0, u), (0, r), (0, M c 0), d5] M X = zex 11 64 [] [(2, c), (0, k), (0, u), (0, r), (0, M c 0), d5] M X := by
    rw [q11_44]
    by_cases e : 40 ≤ M c 0
    · rw [if_pos e]
    · rw [if_neg e, if_pos (by omega)]
  rw [q11_41, zg_pos hC.2.1, s, q11_64]
  by_cases e : r = 0
  · rw [if_pos e, if_pos e, q11_69, zg_pos (by omega)]
  · rw [if_neg e, if_neg e, q11_69, zg_pos (by omega)]
theorem e11_n {M : zM} {X : zX} {c k u r : Int} {d4 d5 : zV} (hC : zCd M X c) (hn : 0 ≤ M c 0 ∧ M c 0 < 40) (hr : 1 ≤ r ∧ r ≤ 200) : zex 11 41 [] [(2, c), (0, k), (0, u), (0, r), d4, d5] M X = some ((0, 1), zu (zu (zu (zu M (c + 1) (M c 0) k) (c + 2) (M c 0) r) (c + 3) (M c 0) 0) c 0 (M c 0 + 1), X) := by
  rw [q11_41, zg_pos hC.2.1, q11_44, if_neg (by omega), if_neg (by omega), e221, zbI_ok, zg_pos hC.2.1, show min r 200 = r by omega, e10 hC hn.1 hn.2, zbN_ok, zg_pos (by unfold zI; omega), zg_pos (by unfold zI; omega), q11_44, show r - r = 0 by omega]
  have f : ∀ (N : zM) (i : Int) (d : zV), zex 11 64 [] [(2, c), (0, k), (0, u), (0, 0), (0, i), d] N X = some ((0, 1), N, X) := fun N i d => by
    rw [q11_64, if_pos rfl, q11_69, zg_pos (by omega)]
  by_cases e : 40 ≤ M c 0 + 1
  · rw [if_pos e, f]
  · rw [if_neg e, if_pos (by omega), f]
theorem e11_m {M : zM} {X : zX} {c k u : Int} {d3 d4 d5 : zV} (hC : zCd M X c) (hn : 1 ≤ M c 0 ∧ M c 0 ≤ 40) (hu : 1 ≤ u ∧ u ≤ 200) (hk : M (c + 1) (M c 0 - 1) = k) (hL : 1 ≤ M (c + 2) (M c 0 - 1) ∧ M (c + 2) (M c 0 - 1) ≤ 200) : ∃ e4 e5, zex 11 0 [] [(2, c), (0, k), (0, u), d3, d4, d5] M X = zex 11 41 [] [(2, c), (0, k), (0, u), (0, u - min u (200 - M (c + 2) (M c 0 - 1))), e4, e5] (zu M (c + 2) (M c 0 - 1) (M (c + 2) (M c 0 - 1) + min u (200 - M (c + 2) (M c 0 - 1)))) X := by
  obtain ⟨a0, a1, a2, a3, a4, a5, a6, a7⟩ := hC
  obtain ⟨hn1, hn2⟩ := hn
  obtain ⟨hL1, hL2⟩ := hL
  have n0 : ¬ M c 0 ≤ 0 := by omega
  refine ⟨(0, min u (200 - M (c + 2) (M c 0 - 1))), d5, ?_⟩
  rw [q11_0, zg_pos a1, if_neg n0, zg_pos ⟨a1, by rw [a5]; omega⟩, zg_pos a1, zg_pos (by unfold zI; omega), a5, zg_pos ⟨by rw [a2], by omega, by rw [a2]; dsimp only; omega⟩, if_pos hk, zg_pos ⟨a1, by rw [a6]; omega⟩, zg_pos a1, zg_pos (by unfold zI; omega), a6, zg_pos ⟨by rw [a3], by omega, by rw [a3]; dsimp only; omega⟩, zg_pos (by unfold zI; omega), e221, zbI_ok, zg_pos ⟨a1, by rw [a6]; omega⟩, zg_pos a1, zg_pos (by unfold zI; omega), a6, zg_pos ⟨by rw [a3], by omega, by rw [a3]; dsimp only; omega⟩, zg_pos (by unfold zI; omega), zg_pos ⟨by rw [a3], by omega, by rw [a3]; dsimp only; omega⟩, zg_pos (by unfold zI; omega)]
theorem e11_s {M : zM} {X : zX} {c k u : Int} {d3 d4 d5 : zV} (hC : zCd M X c) (hn : 0 ≤ M c 0 ∧ M c 0 ≤ 40) (hk : M c 0 = 0 ∨ M (c + 1) (M c 0 - 1) ≠ k) : zex 11 0 [] [(2, c), (0, k), (0, u), d3, d4, d5] M X = zex 11 41 [] [(2, c), (0, k), (0, u), (0, u), d4, d5] M X := by
  obtain ⟨a0, a1, a2, a3, a4, a5, a6, a7⟩ := hC
  by_cases e : M c 0 ≤ 0
  · rw [q11_0, zg_pos a1, if_pos e]
  · rw [q11_0, zg_pos a1, if_neg e, zg_pos ⟨a1, by rw [a5]; omega⟩, zg_pos a1, zg_pos (by unfold zI; omega), a5, zg_pos ⟨by rw [a2], by omega, by rw [a2]; dsimp only; omega⟩, if_neg (hk.resolve_left (by omega))]
