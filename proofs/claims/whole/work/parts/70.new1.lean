/-! CONSTRUCTORS: shared ones -/
theorem zkA {K : List (Nat × Nat)} {n m : Nat} {r : Int} {kd : Nat × Nat} (h : zkd (K, n, m) r = kd) (hk : kd.1 < 99) (L : List (Nat × Nat)) (n' m' : Nat) : zkd (K ++ L, n', m') r = kd := by
  obtain ⟨h1, h2, h3, h4⟩ := zkd_some h hk
  unfold zkd at h ⊢
  rw [if_neg (by omega)] at h ⊢
  rw [List.getD_eq_getElem?_getD] at h ⊢
  dsimp only at h h2 h3 ⊢
  rw [List.getElem?_append_left (by omega)]
  exact h
theorem zkl {K : List (Nat × Nat)} {n m : Nat} {c : Int} {kd : Nat × Nat} (hc : (K.length : Int) = c) : zkd (K ++ [kd], n, m) (c + 1) = kd := by
  unfold zkd
  rw [if_neg (by omega), List.getD_eq_getElem?_getD, show (c + 1 - 1).toNat = K.length by omega]
  dsimp only
  rw [List.getElem?_append_right (by omega), Nat.sub_self]
  rfl
theorem zcl_at {M : zM} {a x y : Int} : zclr M a x y = if x = a then 0 else M x y := rfl
theorem zcn {M : zM} {a x y : Int} (h : x ≠ a) : zclr M a x y = M x y := if_neg h
theorem zcz {M : zM} {a y : Int} : zclr M a a y = 0 := if_pos rfl
theorem k8 {M : zM} {K : List (Nat × Nat)} {n m : Nat} {r c : Int} (hc : (K.length : Int) = c) (h : zkd (K, n, m) r = (7, 0)) (hn : 3 ≤ n) (hm : 120 ≤ m) : ∃ M', zex 8 0 [] [(2, r)] M (K, n, m) = some ((9, 0), M', (K ++ [(0, 40), (0, 40), (0, 40)], n - 3, m - 120)) ∧ (M' r 1 = c + 1 ∧ M' r 2 = c + 2 ∧ M' r 3 = c + 3) ∧ ∀ a y, a ≤ c → (a ≠ r ∨ y < 1 ∨ 3 < y) → M' a y = M a y := by
  obtain ⟨h1, h2, h3, h4⟩ := zkd_some h (by decide)
  dsimp only at h3
  have hA := zkA h (by decide)
  refine ⟨zu (zclr (zu (zclr (zu (zclr M (c + 1)) r 1 (c + 1)) (c + 2)) r 2 (c + 2)) (c + 3)) r 3 (c + 3), ?_, ⟨?_, ?_, ?_⟩, fun a y ha hy => ?_⟩
  · simp (disch := omega) only [q8_0, q8_6, q8_10, q8_14, hA, hc, List.length_append, List.length_cons, List.length_nil, List.append_assoc, List.cons_append, List.nil_append, Int.reduceToNat, Int.natCast_add, Int.natCast_one, Nat.reduceAdd, Int.add_assoc, Nat.sub_sub, zg_pos, ↓reduceIte, Int.reduceEq, Int.reduceLE, Int.reduceLT, Int.reduceAdd, Int.reduceSub, Int.reduceMul, Int.reduceNeg, zg_T, zbI_ok, zbL_ok, zbN_ok, zite1, zite2, zite3, zem, Int.cast_ofNat_Int, and_self, and_true, true_and, or_true, true_or, or_self, ite_not, if_true, if_false, not_true_eq_false, not_false_eq_true]
  · simp (disch := omega) only [zun2, zcn, zus]
  · simp (disch := omega) only [zun2, zcn, zus]
  · rw [zus]
  · by_cases e : a = r
    · rw [zun2 (by omega), zcn (by omega), zun2 (by omega), zcn (by omega), zun2 (by omega), zcn (by omega)]
    · rw [zun e, zcn (by omega), zun e, zcn (by omega), zun e, zcn (by omega)]
