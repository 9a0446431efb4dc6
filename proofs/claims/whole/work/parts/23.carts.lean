/-! CARTS -/
def zlk (M : zM) (c d i : Int) : Prop := ∀ j, i ≤ j → j < M c 0 → M (c + 1) j = M (d + 1) j ∧ M (c + 2) j = M (d + 2) j ∧ M (c + 3) j = M (d + 3) j
theorem e15_l {M : zM} {X : zX} {c d : Int} (h : zCd M X c) (hd : zCd M X d) (hn : M c 0 ≤ 40) : ∀ (q : Nat) (i : Int), 0 ≤ i → i + q = M c 0 → ∃ v : Int, zex 15 9 [] [(2, c), (2, d), (0, i)] M X = some ((0, v), M, X) ∧ ((v = 1 ∧ zlk M c d i) ∨ (v = 0 ∧ ¬ zlk M c d i))
  | 0, i, h2, h3 => by
    obtain ⟨a0, a1, a2, a3, a4, a5, a6, a7⟩ := h
    rw [q15_9, zg_pos a1, if_pos (by omega)]
    exact ⟨1, rfl, .inl ⟨rfl, fun j h4 h5 => by omega⟩⟩
  | q + 1, i, h2, h3 => by
    have h' := h
    have hd' := hd
    obtain ⟨a0, a1, a2, a3, a4, a5, a6, a7⟩ := h
    obtain ⟨b0, b1, b2, b3, b4, b5, b6, b7⟩ := hd
    rw [q15_9]
    simp (disch := omega) only [q15_40, a1, a2, a3, a4, a5, a6, a7, b1, b2, b3, b4, b5, b6, b7, zg_pos, if_neg, zI, ↓reduceIte, Int.reduceEq, Int.reduceLE, Int.reduceLT, Int.reduceAdd, Int.reduceSub, Int.reduceMul, Int.reduceNeg, zg_T, zbI_ok, zbL_ok, zbN_ok, zite1, zite2, zite3, zem, Int.cast_ofNat_Int, and_self, and_true, true_and, or_true, true_or, or_self, ite_not, if_true, if_false, not_true_eq_false, not_false_eq_true]
    by_cases e1 : M (c + 1) i = M (d + 1) i
    · rw [if_pos e1]
      by_cases e2 : M (c + 2) i = M (d + 2) i
      · rw [if_pos e2]
        by_cases e3 : M (c + 3) i = M (d + 3) i
        · rw [if_pos e3]
          obtain ⟨v, e4, e5⟩ := e15_l h' hd' hn q (i + 1) (by omega) (by omega)
          refine ⟨v, e4, ?_⟩
          rcases e5 with ⟨e5, e6⟩ | ⟨e5, e6⟩
          · refine .inl ⟨e5, fun j h4 h5 => ?_⟩
            by_cases hj : j = i
            · subst hj; exact ⟨e1, e2, e3⟩
            · exact e6 j (by omega) h5
          · exact .inr ⟨e5, fun h => e6 (fun j h4 h5 => h j (by omega) h5)⟩
        · rw [if_neg e3]
          exact ⟨0, rfl, .inr ⟨rfl, fun h => e3 (h i (by omega) (by omega)).2.2⟩⟩
      · rw [if_neg e2]
        exact ⟨0, rfl, .inr ⟨rfl, fun h => e2 (h i (by omega) (by omega)).2.1⟩⟩
    · rw [if_neg e1]
      exact ⟨0, rfl, .inr ⟨rfl, fun h => e1 (h i (by omega) (by omega)).1⟩⟩
theorem e15 {M : zM} {X : zX} {c d : Int} {e : zV} (h : zCd M X c) (hd : zCd M X d) (h0 : 0 ≤ M c 0) (hn : M c 0 ≤ 40) : ∃ v : Int, zex 15 0 [] [(2, c), (2, d), e] M X = some ((0, v), M, X) ∧ ((v = 1 ∧ M c 0 = M d 0 ∧ zlk M c d 0) ∨ (v = 0 ∧ ¬ (M c 0 = M d 0 ∧ zlk M c d 0))) := by
  obtain ⟨v, e4, e5⟩ := e15_l h hd hn (M c 0).toNat 0 (by omega) (by omega)
  rw [q15_0, zg_pos h.2.1, zg_pos hd.2.1]
  by_cases e1 : M c 0 = M d 0
  · rw [if_pos e1]
    refine ⟨v, e4, ?_⟩
    rcases e5 with ⟨e5, e6⟩ | ⟨e5, e6⟩
    · exact .inl ⟨e5, e1, e6⟩
    · exact .inr ⟨e5, fun h => e6 h.2⟩
  · rw [if_neg e1]
    exact ⟨0, rfl, .inr ⟨rfl, fun h => e1 h.1⟩⟩
/-- a cart at c -/
def zCa (M : zM) (X : zX) (c : Int) : Prop := 0 < c ∧ zkd X c = (6, 0) ∧ zkd X (c + 1) = (3, 3) ∧ zkd X (c + 2) = (0, 801) ∧ M c 0 = c + 1 ∧ M c 1 = c + 2 ∧ M (c + 1) 0 = c + 3 ∧ M (c + 1) 1 = c + 7 ∧ M (c + 1) 2 = c + 11 ∧ zCd M X (c + 3) ∧ zCd M X (c + 7) ∧ zCd M X (c + 11)
theorem e5 {M : zM} {X : zX} {c : Int} {d d' : zV} (h : zCa M X c) (h0 : 0 ≤ M (c + 3) 0 ∧ M (c + 3) 0 ≤ 40) (h1 : 0 ≤ M (c + 7) 0 ∧ M (c + 7) 0 ≤ 40) (h2 : 0 ≤ M (c + 11) 0 ∧ M (c + 11) 0 ≤ 40) : zex 5 0 [] [(2, c), d, d'] M X = some ((0, M (c + 3) 0 + M (c + 7) 0 + M (c + 11) 0), M, X) := by
  obtain ⟨a0, a1, a2, a3, a4, a5, a6, a7, a8, ⟨b0, b1, -⟩, ⟨c0, c1, -⟩, ⟨d0, d1, -⟩⟩ := h
  simp (disch := omega) only [q5_0, q5_4, a1, a2, a4, a6, a7, a8, b1, c1, d1, zg_pos, zI, Int.zero_add, ↓reduceIte, Int.reduceEq, Int.reduceLE, Int.reduceLT, Int.reduceAdd, Int.reduceSub, Int.reduceMul, Int.reduceNeg, zg_T, zbI_ok, zbL_ok, zbN_ok, zite1, zite2, zite3, zem, Int.cast_ofNat_Int, and_self, and_true, true_and, or_true, true_or, or_self, ite_not, if_true, if_false, not_true_eq_false, not_false_eq_true]
/-- the gaps of a cart -/
def zga (M : zM) (c : Int) : Int := zsm (zgp (M (c + 4))) 0 (M (c + 3) 0).toNat + zsm (zgp (M (c + 8))) 0 (M (c + 7) 0).toNat + zsm (zgp (M (c + 12))) 0 (M (c + 11) 0).toNat
theorem zgp_le (f : Int → Int) (n : Nat) : 0 ≤ zsm (zgp f) 0 n ∧ zsm (zgp f) 0 n ≤ n := by
  have := zsm_le (f := zgp f) (a := 0) (b := 1) n 0 (fun k _ _ => by unfold zgp; split <;> omega)
  omega
theorem e6 {M : zM} {X : zX} {c : Int} {d d' : zV} (h : zCa M X c) (h0 : 0 ≤ M (c + 3) 0 ∧ M (c + 3) 0 ≤ 40) (h1 : 0 ≤ M (c + 7) 0 ∧ M (c + 7) 0 ≤ 40) (h2 : 0 ≤ M (c + 11) 0 ∧ M (c + 11) 0 ≤ 40) : zex 6 0 [] [(2, c), d, d'] M X = some ((0, zga M c), M, X) := by
  obtain ⟨a0, a1, a2, a3, a4, a5, a6, a7, a8, b, c', d'⟩ := h
  have g0 := zgp_le (M (c + 4)) (M (c + 3) 0).toNat
  have g1 := zgp_le (M (c + 8)) (M (c + 7) 0).toNat
  have g2 := zgp_le (M (c + 12)) (M (c + 11) 0).toNat
  have k0 := e13 (d := (9, 0)) (d' := (9, 0)) b h0.1 h0.2
  have k1 := e13 (d := (9, 0)) (d' := (9, 0)) c' h1.1 h1.2
  have k2 := e13 (d := (9, 0)) (d' := (9, 0)) d' h2.1 h2.2
  simp only [Int.add_assoc, Int.reduceAdd] at k0 k1 k2
  simp (disch := omega) only [q6_0, q6_4, a1, a2, a4, a6, a7, a8, b.2.1, c'.2.1, d'.2.1, k0, k1, k2, zg_pos, zI, Int.zero_add, ↓reduceIte, Int.reduceEq, Int.reduceLE, Int.reduceLT, Int.reduceAdd, Int.reduceSub, Int.reduceMul, Int.reduceNeg, zg_T, zbI_ok, zbL_ok, zbN_ok, zite1, zite2, zite3, zem, Int.cast_ofNat_Int, and_self, and_true, true_and, or_true, true_or, or_self, ite_not, if_true, if_false, not_true_eq_false, not_false_eq_true]
  rfl
theorem e3 {M : zM} {X : zX} {c s : Int} (h : zCa M X c) : zex 3 0 [] [(2, c), (0, s)] M X = some ((0, if -400 ≤ s ∧ s ≤ 400 then M (c + 2) (s + 400) else 0), M, X) := by
  obtain ⟨a0, a1, a2, a3, a4, a5, a6, a7, a8, b, c', d'⟩ := h
  simp only [q3_0, q3_13, e133, ↓reduceIte, Int.reduceEq, Int.reduceLE, Int.reduceLT, Int.reduceAdd, Int.reduceSub, Int.reduceMul, Int.reduceNeg, zg_T, zbI_ok, zbL_ok, zbN_ok, zite1, zite2, zite3, zem, Int.cast_ofNat_Int, and_self, and_true, true_and, or_true, true_or, or_self, ite_not, if_true, if_false, not_true_eq_false, not_false_eq_true]
  by_cases e : -400 ≤ s ∧ s ≤ 400
  · simp (disch := omega) only [e, a1, a3, a5, zg_pos, zI, ↓reduceIte, Int.reduceEq, Int.reduceLE, Int.reduceLT, Int.reduceAdd, Int.reduceSub, Int.reduceMul, Int.reduceNeg, zg_T, zbI_ok, zbL_ok, zbN_ok, zite1, zite2, zite3, zem, Int.cast_ofNat_Int, and_self, and_true, true_and, or_true, true_or, or_self, ite_not, if_true, if_false, not_true_eq_false, not_false_eq_true]
  · simp only [e, ↓reduceIte, Int.reduceEq, Int.reduceLE, Int.reduceLT, Int.reduceAdd, Int.reduceSub, Int.reduceMul, Int.reduceNeg, zg_T, zbI_ok, zbL_ok, zbN_ok, zite1, zite2, zite3, zem, Int.cast_ofNat_Int, and_self, and_true, true_and, or_true, true_or, or_self, ite_not, if_true, if_false, not_true_eq_false, not_false_eq_true]
theorem e4 {M : zM} {X : zX} {c s a : Int} {d : zV} (h : zCa M X c) (hs : -400 ≤ s ∧ s ≤ 400) (hp : 0 ≤ M c 2 ∧ M c 2 ≤ 801) : zex 4 0 [] [(2, c), (0, s), (0, a), d] M X = some ((9, 0), zu (zu M (c + 2) (s + 400) a) c 2 (M c 2 + (if a = 0 then (if M (c + 2) (s + 400) = 0 then 0 else -1) else if M (c + 2) (s + 400) = 0 then 1 else 0)), X) := by
  obtain ⟨a0, a1, a2, a3, a4, a5, a6, a7, a8, b, c', d'⟩ := h
  have hu : zu M c 2 (M c 2) = M := by
    funext x y
    rw [zu_at]
    split
    · rename_i hx
      rw [hx.1, hx.2]
    · rfl
  have hu2 : ∀ a, zu (zu M (c + 2) (s + 400) a) c 2 (M c 2) = zu M (c + 2) (s + 400) a := by
    intro a
    funext x y
    rw [zu_at]
    split
    · rename_i hx
      rw [hx.1, hx.2, zun (by omega)]
    · rfl
  by_cases e1 : a = 0 <;> by_cases e2 : M (c + 2) (s + 400) = 0 <;> simp (disch := omega) only [q4_0, q4_20, q4_30, q4_40, e133, e1, e2, hs, a1, a3, a5, zun, zg_pos, zI, ↓reduceIte, Int.reduceEq, Int.reduceLE, Int.reduceLT, Int.reduceAdd, Int.reduceSub, Int.reduceMul, Int.reduceNeg, zg_T, zbI_ok, zbL_ok, zbN_ok, zite1, zite2, zite3, zem, Int.cast_ofNat_Int, and_self, and_true, true_and, or_true, true_or, or_self, ite_not, if_true, if_false, not_true_eq_false, not_false_eq_true, Int.add_zero, hu2, Int.sub_eq_add_neg]
theorem e7 {M : zM} {X : zX} {c : Int} (h : zCa M X c) (h0 : 0 ≤ M (c + 3) 0 ∧ M (c + 3) 0 ≤ 40) (h1 : 0 ≤ M (c + 7) 0 ∧ M (c + 7) 0 ≤ 40) (h2 : 0 ≤ M (c + 11) 0 ∧ M (c + 11) 0 ≤ 40) (hX : 1 ≤ X.2.1 ∧ 6 ≤ X.2.2) : zex 7 0 [] [(2, c)] M X = if zga M c ≤ 0 then some ((9, 0), M, X) else some ((8, 2003), M, (X.1, X.2.1 - 1, X.2.2 - 6)) := by
  rw [q7_0, zg_pos h.2.1, e6 h h0 h1 h2, zbI_ok, zg_pos hX]
  rfl
/-- a stripped cart -/
def zst (M : zM) (c : Int) : zM := zu (zu (zfl (zu (zu (zu M (c + 3) 0 0) (c + 7) 0 0) (c + 11) 0 0) (c + 2) 801 0) c 2 0) c 3 2
theorem zfl_r {M : zM} {r n v x y : Int} (h : x ≠ r) : zfl M r n v x y = M x y := by
  unfold zfl
  rw [if_neg (fun c => h c.1)]
theorem zfl_in {M : zM} {r n v y : Int} (h : 0 ≤ y ∧ y < n) : zfl M r n v r y = v := by
  unfold zfl
  rw [if_pos ⟨rfl, h⟩]
theorem e1 {M : zM} {X : zX} {c : Int} {d : zV} (h : zCa M X c) : zex 1 0 [] [(2, c), d] M X = some ((9, 0), zst M c, X) := by
  obtain ⟨a0, a1, a2, a3, a4, a5, a6, a7, a8, ⟨b0, b1, -⟩, ⟨c0, c1, -⟩, ⟨d0, d1, -⟩⟩ := h
  have hf : ∀ (M : zM) (d d' : zV), zex 223 0 [] [(2, c + 2), (0, 0), d, d'] M X = some ((9, 0), zfl M (c + 2) 801 0, X) := fun M d d' => e223 (n := 801) a3 (by omega)
  simp (disch := omega) only [q1_0, q1_2, q1_11, q1_20, q1_23, a1, a2, a4, a5, a6, a7, a8, b1, c1, d1, hf, zun, zfl_r, zg_pos, zI, Int.zero_add, zst, ↓reduceIte, Int.reduceEq, Int.reduceLE, Int.reduceLT, Int.reduceAdd, Int.reduceSub, Int.reduceMul, Int.reduceNeg, zg_T, zbI_ok, zbL_ok, zbN_ok, zite1, zite2, zite3, zem, Int.cast_ofNat_Int, and_self, and_true, true_and, or_true, true_or, or_self, ite_not, if_true, if_false, not_true_eq_false, not_false_eq_true]
/-- a cart that becomes another -/
def zkc (M : zM) (c d : Int) : zM := zu (zu (zcpy (zbc (zbc (zbc M (c + 3) (d + 3) (M (d + 3) 0) (M (d + 3) 0)) (c + 7) (d + 7) (M (d + 7) 0) (M (d + 7) 0)) (c + 11) (d + 11) (M (d + 11) 0) (M (d + 11) 0)) (d + 2) 0 (c + 2) 0 801) c 2 (M d 2)) c 3 (M d 3)
theorem zcpy_r {M : zM} {a sp b dp n x y : Int} (h : x ≠ b) : zcpy M a sp b dp n x y = M x y := by
  unfold zcpy
  rw [if_neg (fun c => h c.1)]
theorem e2 {M : zM} {X : zX} {c d : Int} {e : zV} (h : zCa M X c) (hd : zCa M X d) (hcd : c + 14 < d ∨ d + 14 < c) (h0 : 0 ≤ M (d + 3) 0 ∧ M (d + 3) 0 ≤ 40) (h1 : 0 ≤ M (d + 7) 0 ∧ M (d + 7) 0 ≤ 40) (h2 : 0 ≤ M (d + 11) 0 ∧ M (d + 11) 0 ≤ 40) : zex 2 0 [] [(2, c), (2, d), e] M X = some ((9, 0), zkc M c d, X) := by
  obtain ⟨a0, a1, a2, a3, a4, a5, a6, a7, a8, b, b', b''⟩ := h
  obtain ⟨c0, c1, c2, c3, c4, c5, c6, c7, c8, d1, d2, d3⟩ := hd
  have k0 : ∀ e : zV, zex 14 0 [] [(2, c + 3), (2, d + 3), e] M X = some ((9, 0), zbc M (c + 3) (d + 3) (M (d + 3) 0) (M (d + 3) 0), X) := fun e => e14 b d1 (by omega) h0.1 h0.2
  have q0 : zkc M c d = zu (zu (zcpy (zbc (zbc (zbc M (c + 3) (d + 3) (M (d + 3) 0) (M (d + 3) 0)) (c + 7) (d + 7) (M (d + 7) 0) (M (d + 7) 0)) (c + 11) (d + 11) (M (d + 11) 0) (M (d + 11) 0)) (d + 2) 0 (c + 2) 0 801) c 2 (M d 2)) c 3 (M d 3) := rfl
  generalize hM1 : zbc M (c + 3) (d + 3) (M (d + 3) 0) (M (d + 3) 0) = M1 at k0 q0
  have r1 : ∀ x y, x < c + 3 ∨ c + 6 < x → M1 x y = M x y := fun x y hx => by rw [← hM1, zbc_r (by omega)]
  have k1 : ∀ e : zV, zex 14 0 [] [(2, c + 7), (2, d + 7), e] M1 X = some ((9, 0), zbc M1 (c + 7) (d + 7) (M1 (d + 7) 0) (M1 (d + 7) 0), X) := fun e => e14 (b'.of (r1 _ _ (by omega)) (r1 _ _ (by omega)) (r1 _ _ (by omega))) (d2.of (r1 _ _ (by omega)) (r1 _ _ (by omega)) (r1 _ _ (by omega))) (by omega) (by rw [r1 _ _ (by omega)]; exact h1.1) (by rw [r1 _ _ (by omega)]; exact h1.2)
  rw [r1 (d + 7) 0 (by omega)] at k1
  generalize hM2 : zbc M1 (c + 7) (d + 7) (M (d + 7) 0) (M (d + 7) 0) = M2 at k1 q0
  have r2 : ∀ x y, x < c + 3 ∨ c + 10 < x → M2 x y = M x y := fun x y hx => by rw [← hM2, zbc_r (by omega), r1 _ _ (by omega)]
  have k2 : ∀ e : zV, zex 14 0 [] [(2, c + 11), (2, d + 11), e] M2 X = some ((9, 0), zbc M2 (c + 11) (d + 11) (M2 (d + 11) 0) (M2 (d + 11) 0), X) := fun e => e14 (b''.of (r2 _ _ (by omega)) (r2 _ _ (by omega)) (r2 _ _ (by omega))) (d3.of (r2 _ _ (by omega)) (r2 _ _ (by omega)) (r2 _ _ (by omega))) (by omega) (by rw [r2 _ _ (by omega)]; exact h2.1) (by rw [r2 _ _ (by omega)]; exact h2.2)
  rw [r2 (d + 11) 0 (by omega)] at k2
  generalize hM3 : zbc M2 (c + 11) (d + 11) (M (d + 11) 0) (M (d + 11) 0) = M3 at k2 q0
  have r3 : ∀ x y, x < c + 3 ∨ c + 14 < x → M3 x y = M x y := fun x y hx => by rw [← hM3, zbc_r (by omega), r2 _ _ (by omega)]
  rw [q0]
  simp (disch := omega) only [q2_0, q2_2, k0, k1, k2, r1, r2, r3, a1, a2, a3, a4, a5, a6, a7, a8, b.2.1, b'.2.1, b''.2.1, c1, c2, c3, c4, c5, c6, c7, c8, d1.2.1, d2.2.1, d3.2.1, zun, zun2, zcpy_r, zg_pos, zI, Int.zero_add, ↓reduceIte, Int.reduceEq, Int.reduceLE, Int.reduceLT, Int.reduceAdd, Int.reduceSub, Int.reduceMul, Int.reduceNeg, zg_T, zbI_ok, zbL_ok, zbN_ok, zite1, zite2, zite3, zem, Int.cast_ofNat_Int, and_self, and_true, true_and, or_true, true_or, or_self, ite_not, if_true, if_false, not_true_eq_false, not_false_eq_true]
