/-! WAYS: the reference's one step -/
/-- a move m from s makes the way shorter -/
abbrev zrx (b : Int → Int) (h : Int) (f : Int → Int) (s m : Int) : Prop := zmv b s m ≠ -1 ∧ f (zmv b s m) ≠ -1 ∧ (f s = -1 ∨ f (zmv b s m) + zpm h m < f s)
theorem e182_m {P : zM} {n m : Nat} {x y g s k : Int} {d6 : zV} (r1 : zPR P) (hs : 0 ≤ s ∧ s < 4096) (hk : 0 ≤ k ∧ k < 4) (hh : 1 ≤ P 178 5 ∧ P 178 5 ≤ 8) (hf : ∀ t, 0 ≤ t → t < 4096 → -1 ≤ P 216 t ∧ P 216 t ≤ 1000000) : ∃ d, zex 182 49 [] [(2, 178), (0, x), (0, y), (0, g), (0, s), (0, k), d6] P (zKs, n, m) = zex 182 49 [] [(2, 178), (0, x), (0, y), (0, if zrx (P 185) (P 178 5) (P 216) s k then 1 else g), (0, s), (0, k + 1), d] (if zrx (P 185) (P 178 5) (P 216) s k then zu P 216 s (P 216 (zmv (P 185) s k) + zpm (P 178 5) k) else P) (zKs, n, m) := by
  have c1 := e180 (n := n) (m := m) (d3 := (9, 0)) (d4 := (9, 0)) (d5 := (9, 0)) (d6 := (9, 0)) (d7 := (9, 0)) (d8 := (9, 0)) r1 hs (k := k) (by omega)
  have c2 := e181 (P := P) (n := n) (m := m) (k := k) hh
  have hv := zmv_le (b := P 185) hs (k := k) (by omega)
  have hp : 1 ≤ zpm (P 178 5) k ∧ zpm (P 178 5) k ≤ 32 := by unfold zpm; split <;> omega
  refine ⟨(0, zmv (P 185) s k), ?_⟩
  unfold zrx
  generalize zmv (P 185) s k = v at c1 hv ⊢
  generalize zpm (P 178 5) k = p at c2 hp ⊢
  have f1 := hf s hs.1 hs.2
  by_cases e1 : v = -1
  · have no : ¬ (v ≠ -1 ∧ P 216 v ≠ -1 ∧ (P 216 s = -1 ∨ P 216 v + p < P 216 s)) := fun z => z.1 e1
    rw [if_neg no, if_neg no, q182_49, if_neg (by omega)]
    simp (disch := omega) only [q182_99, c1, e1, zk_178, zg_pos, zI, ↓reduceIte, Int.reduceEq, Int.reduceLE, Int.reduceLT, Int.reduceAdd, Int.reduceSub, Int.reduceMul, Int.reduceNeg, zg_T, zbI_ok, zbL_ok, zbN_ok, zite1, zite2, zite3, zem, Int.cast_ofNat_Int, and_self, and_true, true_and, or_true, true_or, or_self, ite_not, if_true, if_false, not_true_eq_false, not_false_eq_true]
  · have f2 := hf v (by omega) (by omega)
    by_cases e2 : P 216 v = -1
    · have no : ¬ (v ≠ -1 ∧ P 216 v ≠ -1 ∧ (P 216 s = -1 ∨ P 216 v + p < P 216 s)) := fun z => z.2.1 e2
      rw [if_neg no, if_neg no, q182_49, if_neg (by omega)]
      simp (disch := omega) only [q182_99, c1, e1, e2, zk_178, zk_216, zp_178_59 r1, zg_pos, zI, ↓reduceIte, Int.reduceEq, Int.reduceLE, Int.reduceLT, Int.reduceAdd, Int.reduceSub, Int.reduceMul, Int.reduceNeg, zg_T, zbI_ok, zbL_ok, zbN_ok, zite1, zite2, zite3, zem, Int.cast_ofNat_Int, and_self, and_true, true_and, or_true, true_or, or_self, ite_not, if_true, if_false, not_true_eq_false, not_false_eq_true]
    · by_cases e3 : P 216 s = -1
      · have yes : v ≠ -1 ∧ P 216 v ≠ -1 ∧ (P 216 s = -1 ∨ P 216 v + p < P 216 s) := ⟨e1, e2, .inl e3⟩
        rw [if_pos yes, if_pos yes, q182_49, if_neg (by omega)]
        simp (disch := omega) only [q182_85, q182_99, c1, c2, e1, e2, e3, zk_178, zk_216, zp_178_59 r1, zg_pos, zI, ↓reduceIte, Int.reduceEq, Int.reduceLE, Int.reduceLT, Int.reduceAdd, Int.reduceSub, Int.reduceMul, Int.reduceNeg, zg_T, zbI_ok, zbL_ok, zbN_ok, zite1, zite2, zite3, zem, Int.cast_ofNat_Int, and_self, and_true, true_and, or_true, true_or, or_self, ite_not, if_true, if_false, not_true_eq_false, not_false_eq_true]
      · by_cases e4 : P 216 v + p < P 216 s
        · have yes : v ≠ -1 ∧ P 216 v ≠ -1 ∧ (P 216 s = -1 ∨ P 216 v + p < P 216 s) := ⟨e1, e2, .inr e4⟩
          have e5 : ¬ P 216 s ≤ P 216 v + p := by omega
          rw [if_pos yes, if_pos yes, q182_49, if_neg (by omega)]
          simp (disch := omega) only [q182_85, q182_99, c1, c2, e1, e2, e3, e4, e5, zk_178, zk_216, zp_178_59 r1, zg_pos, zI, ↓reduceIte, Int.reduceEq, Int.reduceLE, Int.reduceLT, Int.reduceAdd, Int.reduceSub, Int.reduceMul, Int.reduceNeg, zg_T, zbI_ok, zbL_ok, zbN_ok, zite1, zite2, zite3, zem, Int.cast_ofNat_Int, and_self, and_true, true_and, or_true, true_or, or_self, ite_not, if_true, if_false, not_true_eq_false, not_false_eq_true]
        · have no : ¬ (v ≠ -1 ∧ P 216 v ≠ -1 ∧ (P 216 s = -1 ∨ P 216 v + p < P 216 s)) := fun z => z.2.2.elim e3 e4
          have e5 : P 216 s ≤ P 216 v + p := by omega
          rw [if_neg no, if_neg no, q182_49, if_neg (by omega)]
          simp (disch := omega) only [q182_99, c1, c2, e1, e2, e3, e4, e5, zk_178, zk_216, zp_178_59 r1, zg_pos, zI, ↓reduceIte, Int.reduceEq, Int.reduceLE, Int.reduceLT, Int.reduceAdd, Int.reduceSub, Int.reduceMul, Int.reduceNeg, zg_T, zbI_ok, zbL_ok, zbN_ok, zite1, zite2, zite3, zem, Int.cast_ofNat_Int, and_self, and_true, true_and, or_true, true_or, or_self, ite_not, if_true, if_false, not_true_eq_false, not_false_eq_true]
