/-! CORDS AND CARTS, wherever they lie -/
/-- an array of ints filled from 0 to i with v -/
def zfl (M : zM) (r n v : Int) : zM := fun x y => if x = r ∧ 0 ≤ y ∧ y < n then v else M x y
theorem zfl_0 {M : zM} {r v : Int} : zfl M r 0 v = M := by
  funext x y
  unfold zfl
  rw [if_neg (by omega)]
theorem zfl_s {M : zM} {r v n : Int} (h : 0 ≤ n) : zu (zfl M r n v) r n v = zfl M r (n + 1) v := by
  funext x y
  unfold zfl
  rw [zu_at]
  by_cases h1 : x = r ∧ y = n
  · rw [if_pos h1, if_pos (by omega)]
  · rw [if_neg h1]
    by_cases h2 : x = r ∧ 0 ≤ y ∧ y < n
    · rw [if_pos h2, if_pos (by omega)]
    · rw [if_neg h2, if_neg (by omega)]
theorem e223_l {r v : Int} {M : zM} {X : zX} {n : Nat} (hk : zkd X r = (0, n)) (hn : n ≤ 65536) : ∀ (q : Nat) (i : Int), 0 ≤ i → i + q = n → zex 223 5 [] [(2, r), (0, v), (0, i), (0, (n : Int))] (zfl M r i v) X = some ((9, 0), zfl M r n v, X)
  | 0, i, h0, h1 => by
    rw [q223_5, if_pos (by omega), show i = (n : Int) by omega]
  | q + 1, i, h0, h1 => by
    rw [q223_5, if_neg (by omega), hk, zg_pos ⟨rfl, h0, by show i < (n : Int); omega⟩, zg_pos (by unfold zI; omega), zfl_s h0]
    exact e223_l hk hn q (i + 1) (by omega) (by omega)
theorem e223 {r v : Int} {M : zM} {X : zX} {d d' : zV} {n : Nat} (hk : zkd X r = (0, n)) (hn : n ≤ 65536) : zex 223 0 [] [(2, r), (0, v), d, d'] M X = some ((9, 0), zfl M r n v, X) := by
  rw [q223_0, hk, zg_pos ⟨rfl, hn⟩]
  have := e223_l (M := M) (v := v) hk hn n 0 (by omega) (by omega)
  rw [zfl_0] at this
  exact this
theorem e222_l {r v : Int} {M : zM} {X : zX} {n : Nat} (hk : zkd X r = (1, n)) (hn : n ≤ 65536) : ∀ (q : Nat) (i : Int), 0 ≤ i → i + q = n → zex 222 5 [] [(2, r), (1, v), (9, 0), (0, i), (0, (n : Int))] (zfl M r i v) X = some ((9, 0), zfl M r n v, X)
  | 0, i, h0, h1 => by
    rw [q222_5, if_pos (by omega), show i = (n : Int) by omega]
  | q + 1, i, h0, h1 => by
    rw [q222_5, if_neg (by omega), hk, zg_pos ⟨rfl, h0, by show i < (n : Int); omega⟩, zg_pos (by unfold zI; omega), zfl_s h0]
    exact e222_l hk hn q (i + 1) (by omega) (by omega)
theorem e222 {r v : Int} {M : zM} {X : zX} {d d' : zV} {n : Nat} (hk : zkd X r = (1, n)) (hn : n ≤ 65536) : zex 222 0 [] [(2, r), (1, v), (9, 0), d, d'] M X = some ((9, 0), zfl M r n v, X) := by
  rw [q222_0, hk, zg_pos ⟨rfl, hn⟩]
  have := e222_l (M := M) (v := v) hk hn n 0 (by omega) (by omega)
  rw [zfl_0] at this
  exact this
/-- a cord at c -/
def zCd (M : zM) (X : zX) (c : Int) : Prop := 0 < c ∧ zkd X c = (7, 0) ∧ zkd X (c + 1) = (0, 40) ∧ zkd X (c + 2) = (0, 40) ∧ zkd X (c + 3) = (0, 40) ∧ M c 1 = c + 1 ∧ M c 2 = c + 2 ∧ M c 3 = c + 3
theorem zCd.of {M M' : zM} {X : zX} {c : Int} (h : zCd M X c) (h1 : M' c 1 = M c 1) (h2 : M' c 2 = M c 2) (h3 : M' c 3 = M c 3) : zCd M' X c := by
  obtain ⟨a0, a1, a2, a3, a4, a5, a6, a7⟩ := h
  exact ⟨a0, a1, a2, a3, a4, h1.trans a5, h2.trans a6, h3.trans a7⟩
theorem e9 {M : zM} {X : zX} {c i : Int} (h : zkd X c = (7, 0)) : zex 9 0 [] [(2, c), (0, i)] M X = some ((0, if 0 ≤ i ∧ i < M c 0 then 1 else 0), M, X) := by
  simp only [q9_0, q9_8, q9_9, h, ↓reduceIte, Int.reduceEq, Int.reduceLE, Int.reduceLT, Int.reduceAdd, Int.reduceSub, Int.reduceMul, Int.reduceNeg, zg_T, zbI_ok, zbL_ok, zbN_ok, zite1, zite2, zite3, zem, Int.cast_ofNat_Int, and_self, and_true, true_and, or_true, true_or, or_self, ite_not, if_true, if_false, not_true_eq_false, not_false_eq_true]
  by_cases h1 : i < 0
  · rw [if_pos h1, if_neg (by omega)]
  · rw [if_neg h1]
    by_cases h2 : M c 0 ≤ i
    · rw [if_pos h2, if_neg (by omega)]
    · rw [if_neg h2, if_pos (by omega)]
theorem e10 {M : zM} {X : zX} {c k l w : Int} (h : zCd M X c) (h0 : 0 ≤ M c 0) (h1 : M c 0 < 40) : zex 10 0 [] [(2, c), (0, k), (0, l), (0, w)] M X = some ((9, 0), zu (zu (zu (zu M (c + 1) (M c 0) k) (c + 2) (M c 0) l) (c + 3) (M c 0) w) c 0 (M c 0 + 1), X) := by
  obtain ⟨a0, a1, a2, a3, a4, a5, a6, a7⟩ := h
  simp (disch := omega) only [q10_0, q10_10, q10_16, q10_22, q10_28, a1, a2, a3, a4, a5, a6, a7, zun, zun2, zg_pos, if_neg, zI, ↓reduceIte, Int.reduceEq, Int.reduceLE, Int.reduceLT, Int.reduceAdd, Int.reduceSub, Int.reduceMul, Int.reduceNeg, zg_T, zbI_ok, zbL_ok, zbN_ok, zite1, zite2, zite3, zem, Int.cast_ofNat_Int, and_self, and_true, true_and, or_true, true_or, or_self, ite_not, if_true, if_false, not_true_eq_false, not_false_eq_true]
theorem e12_l {M : zM} {X : zX} {c : Int} (h : zCd M X c) (h1 : M c 0 ≤ 40) (hl : ∀ i, 0 ≤ i → i < M c 0 → 1 ≤ M (c + 2) i ∧ M (c + 2) i ≤ 200) : ∀ (q : Nat) (i s : Int), 0 ≤ i → i + q = M c 0 → 0 ≤ s → s ≤ 200 * i → zex 12 4 [] [(2, c), (0, s), (0, i)] M X = some ((0, s + zsm (M (c + 2)) i q), M, X)
  | 0, i, s, h2, h3, h4, h5 => by
    obtain ⟨a0, a1, a2, a3, a4, a5, a6, a7⟩ := h
    rw [q12_4, zg_pos a1, if_pos (by omega)]
    simp only [zsm, Int.add_zero]
  | q + 1, i, s, h2, h3, h4, h5 => by
    have h' := h
    obtain ⟨a0, a1, a2, a3, a4, a5, a6, a7⟩ := h
    have := hl i h2 (by omega)
    rw [q12_4]
    simp (disch := omega) only [a1, a3, a6, zg_pos, if_neg, zI, ↓reduceIte, Int.reduceEq, Int.reduceLE, Int.reduceLT, Int.reduceAdd, Int.reduceSub, Int.reduceMul, Int.reduceNeg, zg_T, zbI_ok, zbL_ok, zbN_ok, zite1, zite2, zite3, zem, Int.cast_ofNat_Int, and_self, and_true, true_and, or_true, true_or, or_self, ite_not, if_true, if_false, not_true_eq_false, not_false_eq_true]
    rw [e12_l h' h1 hl q (i + 1) _ (by omega) (by omega) (by omega) (by omega)]
    simp only [zsm, Int.add_assoc]
theorem e12 {M : zM} {X : zX} {c : Int} {d d' : zV} (h : zCd M X c) (h0 : 0 ≤ M c 0) (h1 : M c 0 ≤ 40) (hl : ∀ i, 0 ≤ i → i < M c 0 → 1 ≤ M (c + 2) i ∧ M (c + 2) i ≤ 200) : zex 12 0 [] [(2, c), d, d'] M X = some ((0, zsm (M (c + 2)) 0 (M c 0).toNat), M, X) := by
  rw [q12_0, e12_l h h1 hl (M c 0).toNat 0 0 (by omega) (by omega) (by omega) (by omega), Int.zero_add]
/-- gaps among the first n of a row -/
def zgp (f : Int → Int) : Int → Int := fun i => if f i = 3 then 1 else 0
theorem e13_l {M : zM} {X : zX} {c : Int} (h : zCd M X c) (h1 : M c 0 ≤ 40) : ∀ (q : Nat) (i s : Int), 0 ≤ i → i + q = M c 0 → 0 ≤ s → s ≤ i → zex 13 4 [] [(2, c), (0, s), (0, i)] M X = some ((0, s + zsm (zgp (M (c + 1))) i q), M, X)
  | 0, i, s, h2, h3, h4, h5 => by
    obtain ⟨a0, a1, a2, a3, a4, a5, a6, a7⟩ := h
    rw [q13_4, zg_pos a1, if_pos (by omega)]
    simp only [zsm, Int.add_zero]
  | q + 1, i, s, h2, h3, h4, h5 => by
    have h' := h
    obtain ⟨a0, a1, a2, a3, a4, a5, a6, a7⟩ := h
    rw [q13_4]
    simp (disch := omega) only [q13_15, a1, a2, a5, zg_pos, if_neg, zI, ↓reduceIte, Int.reduceEq, Int.reduceLE, Int.reduceLT, Int.reduceAdd, Int.reduceSub, Int.reduceMul, Int.reduceNeg, zg_T, zbI_ok, zbL_ok, zbN_ok, zite1, zite2, zite3, zem, Int.cast_ofNat_Int, and_self, and_true, true_and, or_true, true_or, or_self, ite_not, if_true, if_false, not_true_eq_false, not_false_eq_true]
    unfold zsm zgp
    split
    · rw [e13_l h' h1 q (i + 1) _ (by omega) (by omega) (by omega) (by omega), Int.add_assoc]; rfl
    · rw [e13_l h' h1 q (i + 1) _ (by omega) (by omega) (by omega) (by omega), Int.zero_add]; rfl
theorem e13 {M : zM} {X : zX} {c : Int} {d d' : zV} (h : zCd M X c) (h0 : 0 ≤ M c 0) (h1 : M c 0 ≤ 40) : zex 13 0 [] [(2, c), d, d'] M X = some ((0, zsm (zgp (M (c + 1))) 0 (M c 0).toNat), M, X) := by
  rw [q13_0, e13_l h h1 (M c 0).toNat 0 0 (by omega) (by omega) (by omega) (by omega), Int.zero_add]
/-- a cord that becomes another: its first i segments, n the number -/
def zbc (M : zM) (c d n i : Int) : zM := fun x y => if x = c ∧ y = 0 then n else if 0 ≤ y ∧ y < i ∧ x = c + 1 then M (d + 1) y else if 0 ≤ y ∧ y < i ∧ x = c + 2 then M (d + 2) y else if 0 ≤ y ∧ y < i ∧ x = c + 3 then M (d + 3) y else M x y
theorem zbc_s {M : zM} {c d n i : Int} (hcd : c + 3 < d ∨ d + 3 < c) (hi : 0 ≤ i) : zu (zu (zu (zbc M c d n i) (c + 1) i (M (d + 1) i)) (c + 2) i (M (d + 2) i)) (c + 3) i (M (d + 3) i) = zbc M c d n (i + 1) := by
  funext x y
  simp only [zu_at, zbc]
  by_cases e1 : x = c + 1
  · subst e1
    by_cases e2 : y = i
    · subst e2
      simp (disch := omega) only [if_pos, if_neg, ↓reduceIte, Int.reduceEq, Int.reduceLE, Int.reduceLT, Int.reduceAdd, Int.reduceSub, Int.reduceMul, Int.reduceNeg, zg_T, zbI_ok, zbL_ok, zbN_ok, zite1, zite2, zite3, zem, Int.cast_ofNat_Int, and_self, and_true, true_and, or_true, true_or, or_self, ite_not, if_true, if_false, not_true_eq_false, not_false_eq_true]
    · by_cases e3 : 0 ≤ y ∧ y < i
      · simp (disch := omega) only [if_pos, if_neg, ↓reduceIte, Int.reduceEq, Int.reduceLE, Int.reduceLT, Int.reduceAdd, Int.reduceSub, Int.reduceMul, Int.reduceNeg, zg_T, zbI_ok, zbL_ok, zbN_ok, zite1, zite2, zite3, zem, Int.cast_ofNat_Int, and_self, and_true, true_and, or_true, true_or, or_self, ite_not, if_true, if_false, not_true_eq_false, not_false_eq_true]
      · simp (disch := omega) only [if_pos, if_neg, ↓reduceIte, Int.reduceEq, Int.reduceLE, Int.reduceLT, Int.reduceAdd, Int.reduceSub, Int.reduceMul, Int.reduceNeg, zg_T, zbI_ok, zbL_ok, zbN_ok, zite1, zite2, zite3, zem, Int.cast_ofNat_Int, and_self, and_true, true_and, or_true, true_or, or_self, ite_not, if_true, if_false, not_true_eq_false, not_false_eq_true]
  · by_cases e1 : x = c + 2
    · subst e1
      by_cases e2 : y = i
      · subst e2
        simp (disch := omega) only [if_pos, if_neg, ↓reduceIte, Int.reduceEq, Int.reduceLE, Int.reduceLT, Int.reduceAdd, Int.reduceSub, Int.reduceMul, Int.reduceNeg, zg_T, zbI_ok, zbL_ok, zbN_ok, zite1, zite2, zite3, zem, Int.cast_ofNat_Int, and_self, and_true, true_and, or_true, true_or, or_self, ite_not, if_true, if_false, not_true_eq_false, not_false_eq_true]
      · by_cases e3 : 0 ≤ y ∧ y < i
        · simp (disch := omega) only [if_pos, if_neg, ↓reduceIte, Int.reduceEq, Int.reduceLE, Int.reduceLT, Int.reduceAdd, Int.reduceSub, Int.reduceMul, Int.reduceNeg, zg_T, zbI_ok, zbL_ok, zbN_ok, zite1, zite2, zite3, zem, Int.cast_ofNat_Int, and_self, and_true, true_and, or_true, true_or, or_self, ite_not, if_true, if_false, not_true_eq_false, not_false_eq_true]
        · simp (disch := omega) only [if_pos, if_neg, ↓reduceIte, Int.reduceEq, Int.reduceLE, Int.reduceLT, Int.reduceAdd, Int.reduceSub, Int.reduceMul, Int.reduceNeg, zg_T, zbI_ok, zbL_ok, zbN_ok, zite1, zite2, zite3, zem, Int.cast_ofNat_Int, and_self, and_true, true_and, or_true, true_or, or_self, ite_not, if_true, if_false, not_true_eq_false, not_false_eq_true]
    · by_cases e1 : x = c + 3
      · subst e1
        by_cases e2 : y = i
        · subst e2
          simp (disch := omega) only [if_pos, if_neg, ↓reduceIte, Int.reduceEq, Int.reduceLE, Int.reduceLT, Int.reduceAdd, Int.reduceSub, Int.reduceMul, Int.reduceNeg, zg_T, zbI_ok, zbL_ok, zbN_ok, zite1, zite2, zite3, zem, Int.cast_ofNat_Int, and_self, and_true, true_and, or_true, true_or, or_self, ite_not, if_true, if_false, not_true_eq_false, not_false_eq_true]
        · by_cases e3 : 0 ≤ y ∧ y < i
          · simp (disch := omega) only [if_pos, if_neg, ↓reduceIte, Int.reduceEq, Int.reduceLE, Int.reduceLT, Int.reduceAdd, Int.reduceSub, Int.reduceMul, Int.reduceNeg, zg_T, zbI_ok, zbL_ok, zbN_ok, zite1, zite2, zite3, zem, Int.cast_ofNat_Int, and_self, and_true, true_and, or_true, true_or, or_self, ite_not, if_true, if_false, not_true_eq_false, not_false_eq_true]
          · simp (disch := omega) only [if_pos, if_neg, ↓reduceIte, Int.reduceEq, Int.reduceLE, Int.reduceLT, Int.reduceAdd, Int.reduceSub, Int.reduceMul, Int.reduceNeg, zg_T, zbI_ok, zbL_ok, zbN_ok, zite1, zite2, zite3, zem, Int.cast_ofNat_Int, and_self, and_true, true_and, or_true, true_or, or_self, ite_not, if_true, if_false, not_true_eq_false, not_false_eq_true]
      · by_cases e4 : x = c ∧ y = 0
        · simp (disch := omega) only [if_pos, if_neg, ↓reduceIte, Int.reduceEq, Int.reduceLE, Int.reduceLT, Int.reduceAdd, Int.reduceSub, Int.reduceMul, Int.reduceNeg, zg_T, zbI_ok, zbL_ok, zbN_ok, zite1, zite2, zite3, zem, Int.cast_ofNat_Int, and_self, and_true, true_and, or_true, true_or, or_self, ite_not, if_true, if_false, not_true_eq_false, not_false_eq_true]
        · simp (disch := omega) only [if_neg]
theorem zbc_0 {M : zM} {c d n : Int} : zu M c 0 n = zbc M c d n 0 := by
  funext x y
  simp only [zu_at, zbc]
  by_cases e : x = c ∧ y = 0
  · rw [if_pos e, if_pos e]
  · rw [if_neg e, if_neg e, if_neg (by omega), if_neg (by omega), if_neg (by omega)]
theorem zbc_r {M : zM} {c d n i x : Int} (hx : x < c ∨ c + 3 < x) (y : Int) : zbc M c d n i x y = M x y := by
  simp (disch := omega) only [zbc, if_neg, ↓reduceIte, Int.reduceEq, Int.reduceLE, Int.reduceLT, Int.reduceAdd, Int.reduceSub, Int.reduceMul, Int.reduceNeg, zg_T, zbI_ok, zbL_ok, zbN_ok, zite1, zite2, zite3, zem, Int.cast_ofNat_Int, and_self, and_true, true_and, or_true, true_or, or_self, ite_not, if_true, if_false, not_true_eq_false, not_false_eq_true]
theorem zbc_c {M : zM} {c d n i y : Int} (hy : y ≠ 0) : zbc M c d n i c y = M c y := by
  simp (disch := omega) only [zbc, if_neg, ↓reduceIte, Int.reduceEq, Int.reduceLE, Int.reduceLT, Int.reduceAdd, Int.reduceSub, Int.reduceMul, Int.reduceNeg, zg_T, zbI_ok, zbL_ok, zbN_ok, zite1, zite2, zite3, zem, Int.cast_ofNat_Int, and_self, and_true, true_and, or_true, true_or, or_self, ite_not, if_true, if_false, not_true_eq_false, not_false_eq_true]
theorem zbc_n {M : zM} {c d n i : Int} : zbc M c d n i c 0 = n := by
  simp (disch := omega) only [zbc, if_pos, ↓reduceIte, Int.reduceEq, Int.reduceLE, Int.reduceLT, Int.reduceAdd, Int.reduceSub, Int.reduceMul, Int.reduceNeg, zg_T, zbI_ok, zbL_ok, zbN_ok, zite1, zite2, zite3, zem, Int.cast_ofNat_Int, and_self, and_true, true_and, or_true, true_or, or_self, ite_not, if_true, if_false, not_true_eq_false, not_false_eq_true]
theorem e14_l {M : zM} {X : zX} {c d n : Int} (h : zCd M X c) (hd : zCd M X d) (hcd : c + 3 < d ∨ d + 3 < c) (h1 : n ≤ 40) : ∀ (q : Nat) (i : Int), 0 ≤ i → i + q = n → zex 14 6 [] [(2, c), (2, d), (0, i)] (zbc M c d n i) X = some ((9, 0), zbc M c d n n, X)
  | 0, i, h2, h3 => by
    obtain ⟨a0, a1, a2, a3, a4, a5, a6, a7⟩ := h
    rw [q14_6, zg_pos a1, zbc_n, if_pos (by omega), show i = n by omega]
  | q + 1, i, h2, h3 => by
    have h' := h
    have hd' := hd
    obtain ⟨a0, a1, a2, a3, a4, a5, a6, a7⟩ := h
    obtain ⟨b0, b1, b2, b3, b4, b5, b6, b7⟩ := hd
    rw [q14_6]
    simp (disch := omega) only [q14_18, q14_26, q14_34, zun, zbc_n, zbc_r, zbc_c, a1, a2, a3, a4, a5, a6, a7, b1, b2, b3, b4, b5, b6, b7, zg_pos, if_neg, zI, ↓reduceIte, Int.reduceEq, Int.reduceLE, Int.reduceLT, Int.reduceAdd, Int.reduceSub, Int.reduceMul, Int.reduceNeg, zg_T, zbI_ok, zbL_ok, zbN_ok, zite1, zite2, zite3, zem, Int.cast_ofNat_Int, and_self, and_true, true_and, or_true, true_or, or_self, ite_not, if_true, if_false, not_true_eq_false, not_false_eq_true]
    rw [zbc_s hcd h2]
    exact e14_l h' hd' hcd h1 q (i + 1) (by omega) (by omega)
theorem e14 {M : zM} {X : zX} {c d : Int} {e : zV} (h : zCd M X c) (hd : zCd M X d) (hcd : c + 3 < d ∨ d + 3 < c) (h0 : 0 ≤ M d 0) (h1 : M d 0 ≤ 40) : zex 14 0 [] [(2, c), (2, d), e] M X = some ((9, 0), zbc M c d (M d 0) (M d 0), X) := by
  have := e14_l h hd hcd h1 (M d 0).toNat 0 (by omega) (by omega)
  obtain ⟨a0, a1, a2, a3, a4, a5, a6, a7⟩ := h
  obtain ⟨b0, b1, b2, b3, b4, b5, b6, b7⟩ := hd
  rw [q14_0, zg_pos b1, zg_pos a1, q14_4, zbc_0 (d := d), this]
