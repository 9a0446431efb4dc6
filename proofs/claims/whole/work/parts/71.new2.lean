/-! CONSTRUCTORS: a cart, a tape -/
theorem k0_s {M : zM} {K : List (Nat × Nat)} {n m : Nat} {r b c i : Int} (hc : (K.length : Int) = c) (h : zkd (K, n, m) r = (6, 0)) (hb : zkd (K, n, m) b = (3, 3)) (hM : M r 0 = b) (hi : 0 ≤ i ∧ i < 3) (hn : 4 ≤ n) (hm : 124 ≤ m) : ∃ M', zex 0 12 [] [(2, r), (0, i)] M (K, n, m) = zex 0 12 [] [(2, r), (0, i + 1)] M' (K ++ [(7, 0), (0, 40), (0, 40), (0, 40)], n - 4, m - 124) ∧ (M' b i = c + 1 ∧ M' (c + 1) 1 = c + 2 ∧ M' (c + 1) 2 = c + 3 ∧ M' (c + 1) 3 = c + 4) ∧ ∀ a y, a ≤ c → (a ≠ b ∨ y ≠ i) → M' a y = M a y := by
  obtain ⟨h1, h2, h3, h4⟩ := zkd_some h (by decide)
  obtain ⟨g1, g2, g3, g4⟩ := zkd_some hb (by decide)
  dsimp only at h3 g3
  have hA := zkA h (by decide)
  have hB := zkA hb (by decide)
  have hc1 : ((K ++ [(7, 0)]).length : Int) = c + 1 := by
    simp only [List.length_append, List.length_cons, List.length_nil, Int.natCast_add, hc]; rfl
  obtain ⟨M1, a1, ⟨a2, a3, a4⟩, a5⟩ := k8 (M := zclr M (c + 1)) (n := n - 1) (m := m - 4) hc1 (zkl hc) (by omega) (by omega)
  have hE := zkA (zkl (n := n - 1) (m := m - 4) (kd := (7, 0)) hc) (by decide)
  simp only [List.append_assoc, List.cons_append, List.nil_append] at a1 hE
  refine ⟨zu M1 b i (c + 1), ?_, ⟨zus, ?_, ?_, ?_⟩, fun a y ha hy => ?_⟩
  · rw [q0_12, if_neg (by omega)]
    simp (disch := omega) only [hM, h, hA, hB, hc, hE, a1, zkl hc, List.append_assoc, List.cons_append, List.nil_append, Nat.sub_sub, Nat.reduceAdd, zg_pos, zI, ↓reduceIte, Int.reduceEq, Int.reduceLE, Int.reduceLT, Int.reduceAdd, Int.reduceSub, Int.reduceMul, Int.reduceNeg, zg_T, zbI_ok, zbL_ok, zbN_ok, zite1, zite2, zite3, zem, Int.cast_ofNat_Int, and_self, and_true, true_and, or_true, true_or, or_self, ite_not, if_true, if_false, not_true_eq_false, not_false_eq_true]
  · rw [zun (by omega), a2]; omega
  · rw [zun (by omega), a3]; omega
  · rw [zun (by omega), a4]; omega
  · by_cases e : a = b
    · rw [zun2 (by omega), a5 _ _ (by omega) (by omega), zcn (by omega)]
    · rw [zun e, a5 _ _ (by omega) (by omega), zcn (by omega)]
theorem k0_h {a c : Int} (h : a ≤ c) : a ≤ c + 2 ∧ a ≤ c + 6 ∧ a ≤ c + 10 ∧ a ≠ c + 1 := by omega
theorem k0_g {c : Int} : c + 1 ≤ c + 2 ∧ c + 1 ≤ c + 6 ∧ c + 1 ≤ c + 10 ∧ c + 2 + 1 ≤ c + 6 ∧ c + 2 + 1 ≤ c + 10 ∧ c + 2 + 1 ≠ c + 1 ∧ c + 6 + 1 ≤ c + 10 ∧ c + 6 + 1 ≠ c + 1 := by omega
/-- the pointers of a cart at r, its parts from c + 1 -/
def zCn (M : zM) (r c : Int) : Prop := (M r 0 = c + 1 ∧ M r 1 = c + 2) ∧ (M (c + 1) 0 = c + 3 ∧ M (c + 1) 1 = c + 7 ∧ M (c + 1) 2 = c + 11) ∧ (M (c + 3) 1 = c + 4 ∧ M (c + 3) 2 = c + 5 ∧ M (c + 3) 3 = c + 6) ∧ (M (c + 7) 1 = c + 8 ∧ M (c + 7) 2 = c + 9 ∧ M (c + 7) 3 = c + 10) ∧ M (c + 11) 1 = c + 12 ∧ M (c + 11) 2 = c + 13 ∧ M (c + 11) 3 = c + 14
theorem k0 {M : zM} {K : List (Nat × Nat)} {n m : Nat} {r c : Int} {d : zV} (hc : (K.length : Int) = c) (h : zkd (K, n, m) r = (6, 0)) (hn : 14 ≤ n) (hm : 1176 ≤ m) : ∃ M', zex 0 0 [] [(2, r), d] M (K, n, m) = some ((9, 0), M', (K ++ [(3, 3), (0, 801), (7, 0), (0, 40), (0, 40), (0, 40), (7, 0), (0, 40), (0, 40), (0, 40), (7, 0), (0, 40), (0, 40), (0, 40)], n - 14, m - 1176)) ∧ zCn M' r c ∧ ∀ a y, a ≤ c → (a ≠ r ∨ (y ≠ 0 ∧ y ≠ 1)) → M' a y = M a y := by
  obtain ⟨h1, h2, h3, h4⟩ := zkd_some h (by decide)
  dsimp only at h3
  have hA := zkA h (by decide)
  have s0 : zex 0 0 [] [(2, r), d] M (K, n, m) = zex 0 12 [] [(2, r), (0, 0)] (zu (zclr (zu (zclr M (c + 1)) r 0 (c + 1)) (c + 2)) r 1 (c + 2)) (K ++ [(3, 3), (0, 801)], n - 2, m - 804) := by
    simp (disch := omega) only [q0_0, q0_6, q0_10, hA, hc, List.length_append, List.length_cons, List.length_nil, List.append_assoc, List.cons_append, List.nil_append, Int.reduceToNat, Int.natCast_add, Int.natCast_one, Nat.reduceAdd, Int.add_assoc, Nat.sub_sub, zg_pos, ↓reduceIte, Int.reduceEq, Int.reduceLE, Int.reduceLT, Int.reduceAdd, Int.reduceSub, Int.reduceMul, Int.reduceNeg, zg_T, zbI_ok, zbL_ok, zbN_ok, zite1, zite2, zite3, zem, Int.cast_ofNat_Int, and_self, and_true, true_and, or_true, true_or, or_self, ite_not, if_true, if_false, not_true_eq_false, not_false_eq_true]
  have v0 : zu (zclr (zu (zclr M (c + 1)) r 0 (c + 1)) (c + 2)) r 1 (c + 2) r 0 = c + 1 := by simp (disch := omega) only [zun2, zcn, zus]
  have v1 : zu (zclr (zu (zclr M (c + 1)) r 0 (c + 1)) (c + 2)) r 1 (c + 2) r 1 = c + 2 := zus
  have f0 : ∀ a y, a ≤ c → (a ≠ r ∨ (y ≠ 0 ∧ y ≠ 1)) → zu (zclr (zu (zclr M (c + 1)) r 0 (c + 1)) (c + 2)) r 1 (c + 2) a y = M a y := fun a y ha hy => by
    by_cases e : a = r
    · rw [zun2 (by omega), zcn (by omega), zun2 (by omega), zcn (by omega)]
    · rw [zun e, zcn (by omega), zun e, zcn (by omega)]
  generalize zu (zclr (zu (zclr M (c + 1)) r 0 (c + 1)) (c + 2)) r 1 (c + 2) = A at s0 v0 v1 f0
  have hl : ∀ (L : List (Nat × Nat)) (k : Int), (L.length : Int) = k → ((K ++ L).length : Int) = c + k := fun L k hk => by
    rw [List.length_append, Int.natCast_add, hc, hk]
  have kb : zkd (K ++ [(3, 3)], n, m) (c + 1) = (3, 3) := zkl hc
  have kB := zkA kb (by decide)
  simp only [List.append_assoc, List.cons_append, List.nil_append] at kB
  obtain ⟨p2, p6, p10, pn⟩ := k0_h (hc ▸ h3 : r ≤ c)
  obtain ⟨q2, q6, q10, w6, w10, wn, x10, xn⟩ := k0_g (c := c)
  have n10 : (1 : Int) ≠ 0 := by decide
  have n20 : (2 : Int) ≠ 0 := by decide
  have n01 : (0 : Int) ≠ 1 := by decide
  have n02 : (0 : Int) ≠ 2 := by decide
  have n12 : (1 : Int) ≠ 2 := by decide
  have i0 : (0 : Int) ≤ 0 ∧ (0 : Int) < 3 := by decide
  have i1 : (0 : Int) ≤ 1 ∧ (1 : Int) < 3 := by decide
  have i2 : (0 : Int) ≤ 2 ∧ (2 : Int) < 3 := by decide
  have z1 : 4 ≤ n - 2 ∧ 4 ≤ n - 2 - 4 ∧ 4 ≤ n - 2 - 4 - 4 := by omega
  have z2 : 124 ≤ m - 804 ∧ 124 ≤ m - 804 - 124 ∧ 124 ≤ m - 804 - 124 - 124 := by omega
  obtain ⟨B, b1, ⟨b2, b3, b4, b5⟩, b6⟩ := k0_s (M := A) (i := 0) (n := n - 2) (m := m - 804) (hl [(3, 3), (0, 801)] 2 rfl) (hA _ _ _) (kB [(0, 801)] _ _) v0 i0 z1.1 z2.1
  have b0 : B r 0 = c + 1 := by rw [b6 _ _ p2 (.inl pn), v0]
  obtain ⟨D, d1, ⟨d2, d3, d4, d5⟩, d6⟩ := k0_s (M := B) (b := c + 1) (i := 1) (n := n - 2 - 4) (m := m - 804 - 124) (hl [(3, 3), (0, 801), (7, 0), (0, 40), (0, 40), (0, 40)] 6 rfl) (hA _ _ _) (kB [(0, 801), (7, 0), (0, 40), (0, 40), (0, 40)] _ _) b0 i1 z1.2.1 z2.2.1
  have d0 : D r 0 = c + 1 := by rw [d6 _ _ p6 (.inl pn), b0]
  obtain ⟨E, e1, ⟨e2, e3, e4, e5⟩, e6⟩ := k0_s (M := D) (b := c + 1) (i := 2) (n := n - 2 - 4 - 4) (m := m - 804 - 124 - 124) (hl [(3, 3), (0, 801), (7, 0), (0, 40), (0, 40), (0, 40), (7, 0), (0, 40), (0, 40), (0, 40)] 10 rfl) (hA _ _ _) (kB [(0, 801), (7, 0), (0, 40), (0, 40), (0, 40), (7, 0), (0, 40), (0, 40), (0, 40)] _ _) d0 i2 z1.2.2 z2.2.2
  simp only [List.append_assoc, List.cons_append, List.nil_append, Int.reduceAdd] at b1 d1 e1
  have A1 : ∀ x y z : Int, x + y = z → c + x + y = c + z := fun x y z h => by rw [Int.add_assoc, h]
  refine ⟨E, ?_, ⟨⟨?_, ?_⟩, ⟨?_, ?_, ?_⟩, ⟨?_, ?_, ?_⟩, ⟨?_, ?_, ?_⟩, ?_, ?_, ?_⟩, fun a y ha hy => ?_⟩
  · rw [s0, b1, d1, e1, q0_12, if_pos (by decide), Nat.sub_sub, Nat.sub_sub, Nat.sub_sub, Nat.sub_sub, Nat.sub_sub, Nat.sub_sub]
  · rw [e6 _ _ p10 (.inl pn), d0]
  · rw [e6 _ _ p10 (.inl pn), d6 _ _ p6 (.inl pn), b6 _ _ p2 (.inl pn), v1]
  · rw [e6 _ _ q10 (.inr n02), d6 _ _ q6 (.inr n01), b2]; exact A1 2 1 3 rfl
  · rw [e6 _ _ q10 (.inr n12), d2]; exact A1 6 1 7 rfl
  · rw [e2]; exact A1 10 1 11 rfl
  · rw [← A1 2 1 3 rfl, e6 _ _ w10 (.inl wn), d6 _ _ w6 (.inl wn), b3]; exact A1 2 2 4 rfl
  · rw [← A1 2 1 3 rfl, e6 _ _ w10 (.inl wn), d6 _ _ w6 (.inl wn), b4]; exact A1 2 3 5 rfl
  · rw [← A1 2 1 3 rfl, e6 _ _ w10 (.inl wn), d6 _ _ w6 (.inl wn), b5]; exact A1 2 4 6 rfl
  · rw [← A1 6 1 7 rfl, e6 _ _ x10 (.inl xn), d3]; exact A1 6 2 8 rfl
  · rw [← A1 6 1 7 rfl, e6 _ _ x10 (.inl xn), d4]; exact A1 6 3 9 rfl
  · rw [← A1 6 1 7 rfl, e6 _ _ x10 (.inl xn), d5]; exact A1 6 4 10 rfl
  · rw [← A1 10 1 11 rfl, e3]; exact A1 10 2 12 rfl
  · rw [← A1 10 1 11 rfl, e4]; exact A1 10 3 13 rfl
  · rw [← A1 10 1 11 rfl, e5]; exact A1 10 4 14 rfl
  · obtain ⟨g2, g6, g10, gn⟩ := k0_h ha
    rw [e6 _ _ g10 (.inl gn), d6 _ _ g6 (.inl gn), b6 _ _ g2 (.inl gn), f0 _ _ ha hy]
theorem k44 {M : zM} {K : List (Nat × Nat)} {n m : Nat} {r c : Int} (hc : (K.length : Int) = c) (h : zkd (K, n, m) r = (10, 0)) (hn : 1 ≤ n) (hm : 2048 ≤ m) : ∃ M', zex 44 0 [] [(2, r)] M (K, n, m) = some ((9, 0), M', (K ++ [(0, 2048)], n - 1, m - 2048)) ∧ M' r 0 = c + 1 ∧ ∀ a y, a ≤ c → (a ≠ r ∨ y ≠ 0) → M' a y = M a y := by
  obtain ⟨h1, h2, h3, h4⟩ := zkd_some h (by decide)
  dsimp only at h3
  have hA := zkA h (by decide)
  refine ⟨zu (zclr M (c + 1)) r 0 (c + 1), ?_, zus, fun a y ha hy => ?_⟩
  · simp (disch := omega) only [q44_0, q44_6, hA, hc, Int.reduceToNat, zg_pos, ↓reduceIte, Int.reduceEq, Int.reduceLE, Int.reduceLT, Int.reduceAdd, Int.reduceSub, Int.reduceMul, Int.reduceNeg, zg_T, zbI_ok, zbL_ok, zbN_ok, zite1, zite2, zite3, zem, Int.cast_ofNat_Int, and_self, and_true, true_and, or_true, true_or, or_self, ite_not, if_true, if_false, not_true_eq_false, not_false_eq_true]
  · by_cases e : a = r
    · rw [zun2 (by omega), zcn (by omega)]
    · rw [zun e, zcn (by omega)]
theorem k74 {M : zM} {K : List (Nat × Nat)} {n m : Nat} {r c : Int} (hc : (K.length : Int) = c) (h : zkd (K, n, m) r = (14, 0)) (hn : 16 ≤ n) (hm : 1244 ≤ m) : ∃ M', zex 74 0 [] [(2, r)] M (K, n, m) = some ((9, 0), M', (K ++ [(1, 64), (6, 0), (3, 3), (0, 801), (7, 0), (0, 40), (0, 40), (0, 40), (7, 0), (0, 40), (0, 40), (0, 40), (7, 0), (0, 40), (0, 40), (0, 40)], n - 16, m - 1244)) ∧ (M' r 2 = c + 1 ∧ M' r 3 = c + 2 ∧ zCn M' (c + 2) (c + 2)) ∧ ∀ a y, a ≤ c → (a ≠ r ∨ (y ≠ 2 ∧ y ≠ 3)) → M' a y = M a y := by
  obtain ⟨h1, h2, h3, h4⟩ := zkd_some h (by decide)
  dsimp only at h3
  have hA := zkA h (by decide)
  have hl : ((K ++ [(1, 64)]).length : Int) = c + 1 := by
    rw [List.length_append, Int.natCast_add, hc]; rfl
  have hl2 : ((K ++ [(1, 64), (6, 0)]).length : Int) = c + 2 := by
    rw [List.length_append, Int.natCast_add, hc]; rfl
  have k6 : zkd (K ++ [(1, 64)] ++ [(6, 0)], n - 1 - 1, m - 64 - 4) (c + 1 + 1) = (6, 0) := zkl hl
  simp only [List.append_assoc, List.cons_append, List.nil_append, Int.add_assoc, Int.reduceAdd] at k6
  obtain ⟨A, a1, a2, a3⟩ := k0 (M := zclr (zu (zclr M (c + 1)) r 2 (c + 1)) (c + 2)) (d := (9, 0)) hl2 k6 (by omega) (by omega)
  simp only [List.append_assoc, List.cons_append, List.nil_append] at a1
  refine ⟨zu A r 3 (c + 2), ?_, ⟨?_, zus, ?_⟩, fun a y ha hy => ?_⟩
  · simp only [Nat.sub_sub, Nat.reduceAdd] at a1 k6
    simp (disch := omega) only [q74_0, q74_6, q74_11, hA, hc, a1, k6, List.length_append, List.length_cons, List.length_nil, List.append_assoc, List.cons_append, List.nil_append, Int.reduceToNat, Int.natCast_add, Int.natCast_one, Nat.reduceAdd, Int.add_assoc, Nat.sub_sub, zg_pos, ↓reduceIte, Int.reduceEq, Int.reduceLE, Int.reduceLT, Int.reduceAdd, Int.reduceSub, Int.reduceMul, Int.reduceNeg, zg_T, zbI_ok, zbL_ok, zbN_ok, zite1, zite2, zite3, zem, Int.cast_ofNat_Int, and_self, and_true, true_and, or_true, true_or, or_self, ite_not, if_true, if_false, not_true_eq_false, not_false_eq_true]
  · rw [zun2 (by omega), a3 _ _ (by omega) (by omega), zcn (by omega), zus]
  · unfold zCn
    simp (disch := omega) only [zun]
    exact a2
  · by_cases e : a = r
    · rw [zun2 (by omega), a3 _ _ (by omega) (by omega), zcn (by omega), zun2 (by omega), zcn (by omega)]
    · rw [zun e, a3 _ _ (by omega) (by omega), zcn (by omega), zun e, zcn (by omega)]
