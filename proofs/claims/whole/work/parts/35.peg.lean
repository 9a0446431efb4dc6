/-! PEG -/
theorem e151_l {P : zM} {n m : Nat} {s : Int} (r1 : zPR P) (hn : P 178 6 ≤ 12) : ∀ (q : Nat) (i : Int), 0 ≤ i → i + q = P 178 6 → ∃ v : Int, zex 151 2 [] [(2, 178), (0, s), (0, i)] P (zKs, n, m) = some ((0, v), P, (zKs, n, m)) ∧ ((v = -1 ∧ ∀ j, i ≤ j → j < P 178 6 → P 183 j ≠ s) ∨ (i ≤ v ∧ v < P 178 6 ∧ P 183 v = s))
  | 0, i, h0, h1 => ⟨-1, by rw [q151_2, zg_pos (zk_178 n m), if_pos (by omega)], .inl ⟨rfl, fun j h2 h3 => by omega⟩⟩
  | q + 1, i, h0, h1 => by
    by_cases e : P 183 i = s
    · exact ⟨i, by rw [q151_2]; simp (disch := omega) only [zk_178, zk_183, zp_178_7 r1, e, zg_pos, if_neg, ↓reduceIte, Int.reduceEq, Int.reduceLE, Int.reduceLT, Int.reduceAdd, Int.reduceSub, Int.reduceMul, Int.reduceNeg, zg_T, zbI_ok, zbL_ok, zbN_ok, zite1, zite2, zite3, zem, Int.cast_ofNat_Int, and_self, and_true, true_and, or_true, true_or, or_self, ite_not, if_true, if_false, not_true_eq_false, not_false_eq_true], .inr ⟨by omega, by omega, e⟩⟩
    · obtain ⟨v, v1, v2⟩ := e151_l (n := n) (m := m) (s := s) r1 hn q (i + 1) (by omega) (by omega)
      refine ⟨v, ?_, ?_⟩
      · rw [← v1, q151_2]
        simp (disch := omega) only [zk_178, zk_183, zp_178_7 r1, e, zg_pos, if_neg, zI, ↓reduceIte, Int.reduceEq, Int.reduceLE, Int.reduceLT, Int.reduceAdd, Int.reduceSub, Int.reduceMul, Int.reduceNeg, zg_T, zbI_ok, zbL_ok, zbN_ok, zite1, zite2, zite3, zem, Int.cast_ofNat_Int, and_self, and_true, true_and, or_true, true_or, or_self, ite_not, if_true, if_false, not_true_eq_false, not_false_eq_true]
      · rcases v2 with ⟨v3, v4⟩ | ⟨v3, v4, v5⟩
        · refine .inl ⟨v3, fun j h2 h3 => ?_⟩
          by_cases hj : j = i
          · subst hj; exact e
          · exact v4 j (by omega) h3
        · exact .inr ⟨by omega, v4, v5⟩
theorem o_peg {q : Int} {M P : zM} (h : zRel q M P) (n m : Nat) (s a : Int) : zOpn q 97 152 [(0, s), (0, a), (9, 0)] [(0, s), (0, a), (9, 0)] M P n m := by
  obtain ⟨⟨r0, r1⟩, rc, rh, rp, rb, rs, rw0, rx, ro, rk, rt, rr⟩ := id h
  obtain ⟨g1, g2, g3, g4, g5, g6⟩ := id rp
  simp only [Int.reduceAdd] at g4 g6
  obtain ⟨v, v1, v2⟩ := e151_l (n := n) (m := m) (s := s) r1 g3 (P 178 6).toNat 0 (by omega) (by omega)
  by_cases hs : -400 ≤ s ∧ s ≤ 400
  · by_cases ha : 0 ≤ a ∧ a ≤ 9
    · have k3 := e3 (s := s) (zCa2 r0 n m)
      simp only [Int.reduceAdd, hs, ↓reduceIte, Int.reduceEq, Int.reduceLE, Int.reduceLT, Int.reduceAdd, Int.reduceSub, Int.reduceMul, Int.reduceNeg, zg_T, zbI_ok, zbL_ok, zbN_ok, zite1, zite2, zite3, zem, Int.cast_ofNat_Int, and_self, and_true, true_and, or_true, true_or, or_self, ite_not, if_true, if_false, not_true_eq_false, not_false_eq_true] at k3
      have k4 := e4 (a := a) (d := (9, 0)) (zCa2 r0 n m) hs (by rw [g1]; omega)
      simp only [Int.reduceAdd, g1] at k4
      rcases v2 with ⟨rfl, v3⟩ | ⟨v3, v4, v5⟩
      · have hz : M 4 (s + 400) = 0 := Classical.byContradiction fun c => by
          obtain ⟨j, j1, j2, j3⟩ := g6 (s + 400) (by omega) (by omega) c
          exact v3 j j1 j2 (by omega)
        simp only [hz] at k3
        by_cases a0 : a = 0
        · refine ⟨-1, M, P, ?_, zCf.rfl, ?_, zRf.rfl, h⟩
          · simp (disch := omega) only [q97_0, q97_20, e133, hs, ha, a0, zk_1, zk_2, zp_1_0 r0, k3, zg_pos, ↓reduceIte, Int.reduceEq, Int.reduceLE, Int.reduceLT, Int.reduceAdd, Int.reduceSub, Int.reduceMul, Int.reduceNeg, zg_T, zbI_ok, zbL_ok, zbN_ok, zite1, zite2, zite3, zem, Int.cast_ofNat_Int, and_self, and_true, true_and, or_true, true_or, or_self, ite_not, if_true, if_false, not_true_eq_false, not_false_eq_true]
          · simp (disch := omega) only [q152_0, q152_19, q151_0, v1, e143, hs, ha, a0, zk_178, zg_pos, ↓reduceIte, Int.reduceEq, Int.reduceLE, Int.reduceLT, Int.reduceAdd, Int.reduceSub, Int.reduceMul, Int.reduceNeg, zg_T, zbI_ok, zbL_ok, zbN_ok, zite1, zite2, zite3, zem, Int.cast_ofNat_Int, and_self, and_true, true_and, or_true, true_or, or_self, ite_not, if_true, if_false, not_true_eq_false, not_false_eq_true]
        · simp only [hz, a0, ↓reduceIte] at k4
          by_cases hf : P 178 6 < 12
          · have hf2 : ¬ P 178 6 = 12 := by omega
            refine ⟨P 178 6 + 1, zu (zu M 4 (s + 400) a) 2 2 (P 178 6 + 1), zu (zu (zu P 183 (P 178 6) s) 184 (P 178 6) a) 178 6 (P 178 6 + 1), ?_, (zCf.rfl.zu (by omega)).zu (by omega), ?_, ((zRf.rfl.zu (by omega)).zu (by omega)).zu (by omega), ⟨zPC_zu (zPC_zu r0 (zPC_row (by decide +kernel))) (by decide +kernel), zPR_zu (zPR_zu (zPR_zu r1 (zPR_row (by decide +kernel))) (zPR_row (by decide +kernel))) (by decide +kernel)⟩, rc.of (by (intros; first | rfl | (simp (disch := omega) only [zun, zun2, and_self]))) (by (intros; first | rfl | (simp (disch := omega) only [zun, zun2, and_self]))) (by (intros; first | rfl | (simp (disch := omega) only [zun, zun2, and_self]))), (by (simp (disch := omega) only [zun, zun2]; exact rh)), ?_, rb.of (by (intros; first | rfl | (simp (disch := omega) only [zun, zun2, and_self]))) (by (intros; first | rfl | (simp (disch := omega) only [zun, zun2, and_self]))) (by (intros; first | rfl | (simp (disch := omega) only [zun, zun2, and_self]))), rs.of (by (intros; first | rfl | (simp (disch := omega) only [zun, zun2, and_self]))) (by (intros; first | rfl | (simp (disch := omega) only [zun, zun2, and_self]))) (by (intros; first | rfl | (simp (disch := omega) only [zun, zun2, and_self]))) (by (intros; first | rfl | (simp (disch := omega) only [zun, zun2, and_self]))), rw0.of (by (intros; first | rfl | (simp (disch := omega) only [zun, zun2, and_self]))) (by (intros; first | rfl | (simp (disch := omega) only [zun, zun2, and_self]))) (by (intros; first | rfl | (simp (disch := omega) only [zun, zun2, and_self]))) (by (intros; first | rfl | (simp (disch := omega) only [zun, zun2, and_self]))) (by (intros; first | rfl | (simp (disch := omega) only [zun, zun2, and_self]))) (by (intros; first | rfl | (simp (disch := omega) only [zun, zun2, and_self]))), rx.of (by (intros; first | rfl | (simp (disch := omega) only [zun, zun2, and_self]))) (by (intros; first | rfl | (simp (disch := omega) only [zun, zun2, and_self]))) (by (intros; first | rfl | (simp (disch := omega) only [zun, zun2, and_self]))) (by (intros; first | rfl | (simp (disch := omega) only [zun, zun2, and_self]))), ro.of (by (intros; first | rfl | (simp (disch := omega) only [zun, zun2, and_self]))) (by (intros; first | rfl | (simp (disch := omega) only [zun, zun2, and_self]))) (by (intros; first | rfl | (simp (disch := omega) only [zun, zun2, and_self]))) (by (intros; first | rfl | (simp (disch := omega) only [zun, zun2, and_self]))), rk.of (by (intros; first | rfl | (simp (disch := omega) only [zun, zun2, and_self]))) (by (intros; first | rfl | (simp (disch := omega) only [zun, zun2, and_self]))) (by (intros; first | rfl | (simp (disch := omega) only [zun, zun2, and_self]))) (by (intros; first | rfl | (simp (disch := omega) only [zun, zun2, and_self]))) (by (intros; first | rfl | (simp (disch := omega) only [zun, zun2, and_self]))), rt.of (by (intros; first | rfl | (simp (disch := omega) only [zun, zun2, and_self]))) (by (intros; first | rfl | (simp (disch := omega) only [zun, zun2, and_self]))), (by (simp (disch := omega) only [zun, zun2]; exact rr))⟩
            · simp (disch := omega) only [q97_0, q97_20, q97_27, q97_36, e133, hs, ha, a0, hf, g1, zk_1, zk_2, zp_1_0 r0, k3, k4, zun, zus, zg_pos, ↓reduceIte, Int.reduceEq, Int.reduceLE, Int.reduceLT, Int.reduceAdd, Int.reduceSub, Int.reduceMul, Int.reduceNeg, zg_T, zbI_ok, zbL_ok, zbN_ok, zite1, zite2, zite3, zem, Int.cast_ofNat_Int, and_self, and_true, true_and, or_true, true_or, or_self, ite_not, if_true, if_false, not_true_eq_false, not_false_eq_true]
            · simp (disch := omega) only [q152_0, q152_21, q152_30, q152_72, q152_78, q152_84, q151_0, v1, e143, hs, ha, a0, hf2, zk_178, zk_183, zk_184, zp_178_7 r1, zp_178_8 r1, zun, zus, zg_pos, zI, ↓reduceIte, Int.reduceEq, Int.reduceLE, Int.reduceLT, Int.reduceAdd, Int.reduceSub, Int.reduceMul, Int.reduceNeg, zg_T, zbI_ok, zbL_ok, zbN_ok, zite1, zite2, zite3, zem, Int.cast_ofNat_Int, and_self, and_true, true_and, or_true, true_or, or_self, ite_not, if_true, if_false, not_true_eq_false, not_false_eq_true]
            · refine ⟨by rw [zus, zus], by rw [zus]; omega, by rw [zus]; omega, fun j h0 hj => ?_, fun i j h0 hij hj => ?_, fun y h0 hy hx => ?_⟩
              · rw [zus] at hj
                simp only [Int.reduceAdd]
                by_cases e : j = P 178 6
                · subst e
                  simp (disch := omega) only [zun, zun2, zus]
                  exact ⟨hs.1, hs.2, by omega, ha.2, trivial⟩
                · have e2 := v3 j h0 (by omega)
                  simp (disch := omega) only [zun, zun2]
                  exact g4 j h0 (by omega)
              · rw [zus] at hj
                by_cases e : j = P 178 6
                · subst e
                  simp (disch := omega) only [zun, zun2, zus]
                  exact v3 i h0 hij
                · simp (disch := omega) only [zun, zun2]
                  exact g5 i j h0 hij (by omega)
              · simp only [Int.reduceAdd] at hx
                rw [zus]
                by_cases e : y = s + 400
                · refine ⟨P 178 6, g2, by omega, ?_⟩
                  simp (disch := omega) only [zun, zun2, zus]
                  omega
                · rw [zun (by omega), zun2 e] at hx
                  obtain ⟨j, j1, j2, j3⟩ := g6 y h0 hy hx
                  refine ⟨j, j1, by omega, ?_⟩
                  simp (disch := omega) only [zun, zun2]
                  exact j3
          · have hf2 : P 178 6 = 12 := by omega
            refine ⟨-2, M, P, ?_, zCf.rfl, ?_, zRf.rfl, h⟩
            · simp (disch := omega) only [q97_0, q97_20, q97_27, e133, hs, ha, a0, hf, g1, zk_1, zk_2, zp_1_0 r0, k3, zg_pos, ↓reduceIte, Int.reduceEq, Int.reduceLE, Int.reduceLT, Int.reduceAdd, Int.reduceSub, Int.reduceMul, Int.reduceNeg, zg_T, zbI_ok, zbL_ok, zbN_ok, zite1, zite2, zite3, zem, Int.cast_ofNat_Int, and_self, and_true, true_and, or_true, true_or, or_self, ite_not, if_true, if_false, not_true_eq_false, not_false_eq_true]
            · simp (disch := omega) only [q152_0, q152_21, q151_0, v1, e143, hs, ha, a0, hf2, zk_178, zg_pos, ↓reduceIte, Int.reduceEq, Int.reduceLE, Int.reduceLT, Int.reduceAdd, Int.reduceSub, Int.reduceMul, Int.reduceNeg, zg_T, zbI_ok, zbL_ok, zbN_ok, zite1, zite2, zite3, zem, Int.cast_ofNat_Int, and_self, and_true, true_and, or_true, true_or, or_self, ite_not, if_true, if_false, not_true_eq_false, not_false_eq_true]
      · obtain ⟨f1, f2, f3, f4, f5⟩ := g4 v v3 v4
        rw [v5] at f5
        have hz : ¬ M 4 (s + 400) = 0 := by omega
        have hv : ¬ v = -1 := by omega
        by_cases a0 : a = 0
        · subst a0
          simp only [hz, ↓reduceIte] at k4
          rw [show P 178 6 + -1 = P 178 6 - 1 by omega] at k4
          refine ⟨P 178 6 - 1, zu (zu M 4 (s + 400) 0) 2 2 (P 178 6 - 1), zu (zu (zu P 178 6 (P 178 6 - 1)) 183 v (P 183 (P 178 6 - 1))) 184 v (P 184 (P 178 6 - 1)), ?_, (zCf.rfl.zu (by omega)).zu (by omega), ?_, ((zRf.rfl.zu (by omega)).zu (by omega)).zu (by omega), ⟨zPC_zu (zPC_zu r0 (zPC_row (by decide +kernel))) (by decide +kernel), zPR_zu (zPR_zu (zPR_zu r1 (by decide +kernel)) (zPR_row (by decide +kernel))) (zPR_row (by decide +kernel))⟩, rc.of (by (intros; first | rfl | (simp (disch := omega) only [zun, zun2, and_self]))) (by (intros; first | rfl | (simp (disch := omega) only [zun, zun2, and_self]))) (by (intros; first | rfl | (simp (disch := omega) only [zun, zun2, and_self]))), (by (simp (disch := omega) only [zun, zun2]; exact rh)), ?_, rb.of (by (intros; first | rfl | (simp (disch := omega) only [zun, zun2, and_self]))) (by (intros; first | rfl | (simp (disch := omega) only [zun, zun2, and_self]))) (by (intros; first | rfl | (simp (disch := omega) only [zun, zun2, and_self]))), rs.of (by (intros; first | rfl | (simp (disch := omega) only [zun, zun2, and_self]))) (by (intros; first | rfl | (simp (disch := omega) only [zun, zun2, and_self]))) (by (intros; first | rfl | (simp (disch := omega) only [zun, zun2, and_self]))) (by (intros; first | rfl | (simp (disch := omega) only [zun, zun2, and_self]))), rw0.of (by (intros; first | rfl | (simp (disch := omega) only [zun, zun2, and_self]))) (by (intros; first | rfl | (simp (disch := omega) only [zun, zun2, and_self]))) (by (intros; first | rfl | (simp (disch := omega) only [zun, zun2, and_self]))) (by (intros; first | rfl | (simp (disch := omega) only [zun, zun2, and_self]))) (by (intros; first | rfl | (simp (disch := omega) only [zun, zun2, and_self]))) (by (intros; first | rfl | (simp (disch := omega) only [zun, zun2, and_self]))), rx.of (by (intros; first | rfl | (simp (disch := omega) only [zun, zun2, and_self]))) (by (intros; first | rfl | (simp (disch := omega) only [zun, zun2, and_self]))) (by (intros; first | rfl | (simp (disch := omega) only [zun, zun2, and_self]))) (by (intros; first | rfl | (simp (disch := omega) only [zun, zun2, and_self]))), ro.of (by (intros; first | rfl | (simp (disch := omega) only [zun, zun2, and_self]))) (by (intros; first | rfl | (simp (disch := omega) only [zun, zun2, and_self]))) (by (intros; first | rfl | (simp (disch := omega) only [zun, zun2, and_self]))) (by (intros; first | rfl | (simp (disch := omega) only [zun, zun2, and_self]))), rk.of (by (intros; first | rfl | (simp (disch := omega) only [zun, zun2, and_self]))) (by (intros; first | rfl | (simp (disch := omega) only [zun, zun2, and_self]))) (by (intros; first | rfl | (simp (disch := omega) only [zun, zun2, and_self]))) (by (intros; first | rfl | (simp (disch := omega) only [zun, zun2, and_self]))) (by (intros; first | rfl | (simp (disch := omega) only [zun, zun2, and_self]))), rt.of (by (intros; first | rfl | (simp (disch := omega) only [zun, zun2, and_self]))) (by (intros; first | rfl | (simp (disch := omega) only [zun, zun2, and_self]))), (by (simp (disch := omega) only [zun, zun2]; exact rr))⟩
          · simp (disch := omega) only [q97_0, q97_20, q97_27, q97_36, e133, hs, g1, zk_1, zk_2, zp_1_0 r0, k3, hz, k4, zun, zus, zg_pos, ↓reduceIte, Int.reduceEq, Int.reduceLE, Int.reduceLT, Int.reduceAdd, Int.reduceSub, Int.reduceMul, Int.reduceNeg, zg_T, zbI_ok, zbL_ok, zbN_ok, zite1, zite2, zite3, zem, Int.cast_ofNat_Int, and_self, and_true, true_and, or_true, true_or, or_self, ite_not, if_true, if_false, not_true_eq_false, not_false_eq_true]
          · simp (disch := omega) only [q152_0, q152_21, q152_30, q152_38, q152_47, q152_56, q152_84, q151_0, v1, hv, e143, hs, zk_178, zk_183, zk_184, zp_178_7 r1, zp_178_8 r1, zun, zun2, zus, zg_pos, zI, ↓reduceIte, Int.reduceEq, Int.reduceLE, Int.reduceLT, Int.reduceAdd, Int.reduceSub, Int.reduceMul, Int.reduceNeg, zg_T, zbI_ok, zbL_ok, zbN_ok, zite1, zite2, zite3, zem, Int.cast_ofNat_Int, and_self, and_true, true_and, or_true, true_or, or_self, ite_not, if_true, if_false, not_true_eq_false, not_false_eq_true]
          · have w0 : zu (zu (zu P 178 6 (P 178 6 - 1)) 183 v (P 183 (P 178 6 - 1))) 184 v (P 184 (P 178 6 - 1)) 178 6 = P 178 6 - 1 := by rw [zun (by omega), zun (by omega), zus]
            have w1 : ∀ j, zu (zu (zu P 178 6 (P 178 6 - 1)) 183 v (P 183 (P 178 6 - 1))) 184 v (P 184 (P 178 6 - 1)) 183 j = if j = v then P 183 (P 178 6 - 1) else P 183 j := fun j => by
              rw [zun (by omega)]
              by_cases e : j = v
              · rw [if_pos e, e, zus]
              · rw [if_neg e, zun2 e, zun (by omega)]
            have w2 : ∀ j, zu (zu (zu P 178 6 (P 178 6 - 1)) 183 v (P 183 (P 178 6 - 1))) 184 v (P 184 (P 178 6 - 1)) 184 j = if j = v then P 184 (P 178 6 - 1) else P 184 j := fun j => by
              by_cases e : j = v
              · rw [if_pos e, e, zus]
              · rw [if_neg e, zun2 e, zun (by omega), zun (by omega)]
            have w3 : ∀ y, zu (zu M 4 (s + 400) 0) 2 2 (P 178 6 - 1) 4 y = if y = s + 400 then 0 else M 4 y := fun y => by
              rw [zun (by omega)]
              by_cases e : y = s + 400
              · rw [if_pos e, e, zus]
              · rw [if_neg e, zun2 e]
            have hd : ∀ j, 0 ≤ j → j < P 178 6 → j ≠ v → P 183 j ≠ s := fun j j0 j1 j2 => by
              by_cases e : j < v
              · have := g5 j v j0 e v4; omega
              · have := g5 v j v3 (by omega) j1; omega
            refine ⟨by rw [zus, w0], by rw [w0]; omega, by rw [w0]; omega, fun j h0 hj => ?_, fun i j h0 hij hj => ?_, fun y h0 hy hx => ?_⟩
            · rw [w0] at hj
              simp only [Int.reduceAdd, w1, w2, w3]
              by_cases e : j = v
              · rw [if_pos e, if_pos e]
                have := hd (P 178 6 - 1) (by omega) (by omega) (by omega)
                rw [if_neg (by omega)]
                exact g4 _ (by omega) (by omega)
              · rw [if_neg e, if_neg e]
                have := hd j h0 (by omega) e
                rw [if_neg (by omega)]
                exact g4 _ h0 (by omega)
            · rw [w0] at hj
              rw [w1, w1]
              by_cases e : i = v
              · rw [if_pos e, if_neg (by omega)]
                have := g5 j (P 178 6 - 1) (by omega) (by omega) (by omega)
                omega
              · rw [if_neg e]
                by_cases e2 : j = v
                · rw [if_pos e2]
                  exact g5 i _ h0 (by omega) (by omega)
                · rw [if_neg e2]
                  exact g5 i j h0 hij (by omega)
            · simp only [Int.reduceAdd] at hx
              rw [w3] at hx
              rw [w0]
              by_cases e : y = s + 400
              · rw [if_pos e] at hx; exact absurd rfl hx
              · rw [if_neg e] at hx
                obtain ⟨j, j1, j2, j3⟩ := g6 y h0 hy hx
                have e2 : j ≠ v := fun c => by subst c; omega
                by_cases e3 : j = P 178 6 - 1
                · exact ⟨v, v3, by omega, by rw [w1, if_pos rfl, ← e3]; exact j3⟩
                · exact ⟨j, j1, by omega, by rw [w1, if_neg e2]; exact j3⟩
        · simp only [hz, a0, ↓reduceIte, Int.add_zero] at k4
          refine ⟨P 178 6, zu (zu M 4 (s + 400) a) 2 2 (P 178 6), zu P 184 v a, ?_, (zCf.rfl.zu (by omega)).zu (by omega), ?_, zRf.rfl.zu (by omega), ⟨zPC_zu (zPC_zu r0 (zPC_row (by decide +kernel))) (by decide +kernel), zPR_zu r1 (zPR_row (by decide +kernel))⟩, rc.of (by (intros; first | rfl | (simp (disch := omega) only [zun, zun2, and_self]))) (by (intros; first | rfl | (simp (disch := omega) only [zun, zun2, and_self]))) (by (intros; first | rfl | (simp (disch := omega) only [zun, zun2, and_self]))), (by (simp (disch := omega) only [zun, zun2]; exact rh)), ?_, rb.of (by (intros; first | rfl | (simp (disch := omega) only [zun, zun2, and_self]))) (by (intros; first | rfl | (simp (disch := omega) only [zun, zun2, and_self]))) (by (intros; first | rfl | (simp (disch := omega) only [zun, zun2, and_self]))), rs.of (by (intros; first | rfl | (simp (disch := omega) only [zun, zun2, and_self]))) (by (intros; first | rfl | (simp (disch := omega) only [zun, zun2, and_self]))) (by (intros; first | rfl | (simp (disch := omega) only [zun, zun2, and_self]))) (by (intros; first | rfl | (simp (disch := omega) only [zun, zun2, and_self]))), rw0.of (by (intros; first | rfl | (simp (disch := omega) only [zun, zun2, and_self]))) (by (intros; first | rfl | (simp (disch := omega) only [zun, zun2, and_self]))) (by (intros; first | rfl | (simp (disch := omega) only [zun, zun2, and_self]))) (by (intros; first | rfl | (simp (disch := omega) only [zun, zun2, and_self]))) (by (intros; first | rfl | (simp (disch := omega) only [zun, zun2, and_self]))) (by (intros; first | rfl | (simp (disch := omega) only [zun, zun2, and_self]))), rx.of (by (intros; first | rfl | (simp (disch := omega) only [zun, zun2, and_self]))) (by (intros; first | rfl | (simp (disch := omega) only [zun, zun2, and_self]))) (by (intros; first | rfl | (simp (disch := omega) only [zun, zun2, and_self]))) (by (intros; first | rfl | (simp (disch := omega) only [zun, zun2, and_self]))), ro.of (by (intros; first | rfl | (simp (disch := omega) only [zun, zun2, and_self]))) (by (intros; first | rfl | (simp (disch := omega) only [zun, zun2, and_self]))) (by (intros; first | rfl | (simp (disch := omega) only [zun, zun2, and_self]))) (by (intros; first | rfl | (simp (disch := omega) only [zun, zun2, and_self]))), rk.of (by (intros; first | rfl | (simp (disch := omega) only [zun, zun2, and_self]))) (by (intros; first | rfl | (simp (disch := omega) only [zun, zun2, and_self]))) (by (intros; first | rfl | (simp (disch := omega) only [zun, zun2, and_self]))) (by (intros; first | rfl | (simp (disch := omega) only [zun, zun2, and_self]))) (by (intros; first | rfl | (simp (disch := omega) only [zun, zun2, and_self]))), rt.of (by (intros; first | rfl | (simp (disch := omega) only [zun, zun2, and_self]))) (by (intros; first | rfl | (simp (disch := omega) only [zun, zun2, and_self]))), (by (simp (disch := omega) only [zun, zun2]; exact rr))⟩
          · simp (disch := omega) only [q97_0, q97_20, q97_27, q97_36, e133, hs, ha, a0, g1, zk_1, zk_2, zp_1_0 r0, k3, hz, k4, zun, zus, zg_pos, ↓reduceIte, Int.reduceEq, Int.reduceLE, Int.reduceLT, Int.reduceAdd, Int.reduceSub, Int.reduceMul, Int.reduceNeg, zg_T, zbI_ok, zbL_ok, zbN_ok, zite1, zite2, zite3, zem, Int.cast_ofNat_Int, and_self, and_true, true_and, or_true, true_or, or_self, ite_not, if_true, if_false, not_true_eq_false, not_false_eq_true]
          · simp (disch := omega) only [q152_0, q152_21, q152_30, q152_65, q152_84, q151_0, v1, hv, e143, hs, ha, a0, zk_178, zk_184, zp_178_8 r1, zun, zg_pos, zI, ↓reduceIte, Int.reduceEq, Int.reduceLE, Int.reduceLT, Int.reduceAdd, Int.reduceSub, Int.reduceMul, Int.reduceNeg, zg_T, zbI_ok, zbL_ok, zbN_ok, zite1, zite2, zite3, zem, Int.cast_ofNat_Int, and_self, and_true, true_and, or_true, true_or, or_self, ite_not, if_true, if_false, not_true_eq_false, not_false_eq_true]
          · have w3 : ∀ y, zu (zu M 4 (s + 400) a) 2 2 (P 178 6) 4 y = if y = s + 400 then a else M 4 y := fun y => by
              rw [zun (by omega)]
              by_cases e : y = s + 400
              · rw [if_pos e, e, zus]
              · rw [if_neg e, zun2 e]
            have hd : ∀ j, 0 ≤ j → j < P 178 6 → j ≠ v → P 183 j ≠ s := fun j j0 j1 j2 => by
              by_cases e : j < v
              · have := g5 j v j0 e v4; omega
              · have := g5 v j v3 (by omega) j1; omega
            refine ⟨by rw [zus, zun (by omega)], by rw [zun (by omega)]; omega, by rw [zun (by omega)]; omega, fun j h0 hj => ?_, fun i j h0 hij hj => ?_, fun y h0 hy hx => ?_⟩
            · rw [zun (by omega)] at hj
              rw [zun (by omega)]
              simp only [Int.reduceAdd, w3]
              by_cases e : j = v
              · subst e
                rw [zus, if_pos (by omega)]
                exact ⟨f1, f2, by omega, ha.2, rfl⟩
              · rw [zun2 e]
                have := hd j h0 (by omega) e
                rw [if_neg (by omega)]
                exact g4 _ h0 (by omega)
            · rw [zun (by omega)] at hj
              rw [zun (by omega), zun (by omega)]
              exact g5 i j h0 hij hj
            · simp only [Int.reduceAdd] at hx
              rw [w3] at hx
              rw [zun (by omega)]
              by_cases e : y = s + 400
              · exact ⟨v, v3, v4, by rw [zun (by omega)]; omega⟩
              · rw [if_neg e] at hx
                obtain ⟨j, j1, j2, j3⟩ := g6 y h0 hy hx
                exact ⟨j, j1, j2, by rw [zun (by omega)]; exact j3⟩
    · refine ⟨-1, M, P, ?_, zCf.rfl, ?_, zRf.rfl, h⟩
      · simp only [q97_0, q97_10, e133, hs, ha, ↓reduceIte, Int.reduceEq, Int.reduceLE, Int.reduceLT, Int.reduceAdd, Int.reduceSub, Int.reduceMul, Int.reduceNeg, zg_T, zbI_ok, zbL_ok, zbN_ok, zite1, zite2, zite3, zem, Int.cast_ofNat_Int, and_self, and_true, true_and, or_true, true_or, or_self, ite_not, if_true, if_false, not_true_eq_false, not_false_eq_true]
      · simp (disch := omega) only [q152_0, q152_19, q151_0, v1, e143, hs, ha, zk_178, zg_pos, ↓reduceIte, Int.reduceEq, Int.reduceLE, Int.reduceLT, Int.reduceAdd, Int.reduceSub, Int.reduceMul, Int.reduceNeg, zg_T, zbI_ok, zbL_ok, zbN_ok, zite1, zite2, zite3, zem, Int.cast_ofNat_Int, and_self, and_true, true_and, or_true, true_or, or_self, ite_not, if_true, if_false, not_true_eq_false, not_false_eq_true]
  · refine ⟨-1, M, P, ?_, zCf.rfl, ?_, zRf.rfl, h⟩
    · simp only [q97_0, q97_10, e133, hs, ↓reduceIte, Int.reduceEq, Int.reduceLE, Int.reduceLT, Int.reduceAdd, Int.reduceSub, Int.reduceMul, Int.reduceNeg, zg_T, zbI_ok, zbL_ok, zbN_ok, zite1, zite2, zite3, zem, Int.cast_ofNat_Int, and_self, and_true, true_and, or_true, true_or, or_self, ite_not, if_true, if_false, not_true_eq_false, not_false_eq_true]
    · simp (disch := omega) only [q152_0, q152_19, q151_0, v1, e143, hs, zk_178, zg_pos, ↓reduceIte, Int.reduceEq, Int.reduceLE, Int.reduceLT, Int.reduceAdd, Int.reduceSub, Int.reduceMul, Int.reduceNeg, zg_T, zbI_ok, zbL_ok, zbN_ok, zite1, zite2, zite3, zem, Int.cast_ofNat_Int, and_self, and_true, true_and, or_true, true_or, or_self, ite_not, if_true, if_false, not_true_eq_false, not_false_eq_true]
