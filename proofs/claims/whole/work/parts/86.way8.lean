/-! WAYS: the reference's sweep -/
theorem e182_sw {n m : Nat} {G : Int → Prop} {x y : Int} : ∀ (q : Nat) (s g : Int) (P : zM) (d5 d6 : zV), 0 ≤ s → s + q = 4096 → zPR P → (1 ≤ P 178 5 ∧ P 178 5 ≤ 8) → zRI P G → ∃ P' g' c5 c6, zex 182 36 [] [(2, 178), (0, x), (0, y), (0, g), (0, s), d5, d6] P (zKs, n, m) = zex 182 30 [] [(2, 178), (0, x), (0, y), (0, g'), (0, 4096), c5, c6] P' (zKs, n, m) ∧ zRI P' G ∧ (∀ r t, (r ≠ 216 ∨ t < 0 ∨ 4096 ≤ t ∨ P 185 (t / 4) ≠ 0) → P' r t = P r t) ∧ ((g' = g ∧ P' = P ∧ ∀ t, s ≤ t → t < 4096 → P 185 (t / 4) = 0 → ∀ j, 0 ≤ j → j ≤ 3 → ¬ zrx (P 185) (P 178 5) (P 216) t j) ∨ (g' = 1 ∧ zsm (zme (zfF P')) 0 4096 < zsm (zme (zfF P)) 0 4096))
  | 0, s, g, P, d5, d6, h0, h1, r1, hh, H => by
    have e : s = 4096 := by omega
    subst e
    exact ⟨P, g, d5, d6, by rw [q182_36, if_pos (by omega)], H, fun _ _ _ => rfl, .inl ⟨rfl, rfl, fun t t0 t1 => by omega⟩⟩
  | q + 1, s, g, P, d5, d6, h0, h1, r1, hh, H => by
    by_cases e : P 185 (s / 4) = 0
    · obtain ⟨Q, g1, d, a1, a2, a3, a4⟩ := e182_in (n := n) (m := m) (G := G) (x := x) (y := y) (s := s) ⟨h0, by omega⟩ 4 0 g P d6 (by omega) (by omega) r1 hh H
      have s1 : zex 182 36 [] [(2, 178), (0, x), (0, y), (0, g), (0, s), d5, d6] P (zKs, n, m) = zex 182 49 [] [(2, 178), (0, x), (0, y), (0, g), (0, s), (0, 0), d6] P (zKs, n, m) := by
        rw [q182_36, if_neg (by omega)]
        simp (disch := omega) only [ztd_p, e, zk_178, zk_185, zp_178_9 r1, zg_pos, zI, ↓reduceIte, Int.reduceEq, Int.reduceLE, Int.reduceLT, Int.reduceAdd, Int.reduceSub, Int.reduceMul, Int.reduceNeg, zg_T, zbI_ok, zbL_ok, zbN_ok, zite1, zite2, zite3, zem, Int.cast_ofNat_Int, and_self, and_true, true_and, or_true, true_or, or_self, ite_not, if_true, if_false, not_true_eq_false, not_false_eq_true]
      have s2 : zex 182 101 [] [(2, 178), (0, x), (0, y), (0, g1), (0, s), (0, 4), d] Q (zKs, n, m) = zex 182 36 [] [(2, 178), (0, x), (0, y), (0, g1), (0, s + 1), (0, 4), d] Q (zKs, n, m) := by
        rw [q182_101, zg_pos (by unfold zI; omega)]
      have rQ : zPR Q := zPR_t (fun r y => decide (r = 216)) (by decide +kernel) r1 (fun r y hr => a3 r y (by simp at hr; omega))
      have u2 : Q 178 5 = P 178 5 := a3 _ _ (by omega)
      have u1 : ∀ z, Q 185 z = P 185 z := fun z => a3 _ _ (by omega)
      obtain ⟨P', g', c5, c6, b1, b2, b3, b4⟩ := e182_sw (n := n) (m := m) (G := G) (x := x) (y := y) q (s + 1) g1 Q (0, 4) d (by omega) (by omega) rQ (by rw [u2]; exact hh) a2
      refine ⟨P', g', c5, c6, s1.trans (a1.trans (s2.trans b1)), b2, fun r t hr => by
        rw [b3 r t (by rw [u1]; exact hr), a3 r t (by
          by_cases er : r = 216
          · refine .inr (fun et => ?_)
            subst et
            rcases hr with hr | hr | hr | hr
            · exact hr er
            · omega
            · omega
            · exact hr e
          · exact .inl er)], ?_⟩
      rcases a4 with ⟨rfl, rfl, a5⟩ | ⟨rfl, a5⟩
      · rcases b4 with ⟨b4, b5, b6⟩ | b4
        · refine .inl ⟨b4, b5, fun t t0 t1 tb j j0 j1 => ?_⟩
          by_cases et : t = s
          · rw [et]; exact a5 j j0 j1
          · exact b6 t (by omega) t1 tb j j0 j1
        · exact .inr b4
      · rcases b4 with ⟨rfl, rfl, -⟩ | ⟨b4, b5⟩
        · exact .inr ⟨rfl, a5⟩
        · exact .inr ⟨b4, by omega⟩
    · have s1 : zex 182 36 [] [(2, 178), (0, x), (0, y), (0, g), (0, s), d5, d6] P (zKs, n, m) = zex 182 36 [] [(2, 178), (0, x), (0, y), (0, g), (0, s + 1), d5, d6] P (zKs, n, m) := by
        rw [q182_36, if_neg (by omega)]
        simp (disch := omega) only [q182_101, ztd_p, e, zk_178, zk_185, zp_178_9 r1, zg_pos, zI, ↓reduceIte, Int.reduceEq, Int.reduceLE, Int.reduceLT, Int.reduceAdd, Int.reduceSub, Int.reduceMul, Int.reduceNeg, zg_T, zbI_ok, zbL_ok, zbN_ok, zite1, zite2, zite3, zem, Int.cast_ofNat_Int, and_self, and_true, true_and, or_true, true_or, or_self, ite_not, if_true, if_false, not_true_eq_false, not_false_eq_true]
      obtain ⟨P', g', c5, c6, b1, b2, b3, b4⟩ := e182_sw (n := n) (m := m) (G := G) (x := x) (y := y) q (s + 1) g P d5 d6 (by omega) (by omega) r1 hh H
      refine ⟨P', g', c5, c6, s1.trans b1, b2, b3, ?_⟩
      rcases b4 with ⟨b4, b5, b6⟩ | b4
      · refine .inl ⟨b4, b5, fun t t0 t1 tb => ?_⟩
        by_cases et : t = s
        · rw [et] at tb; exact absurd tb e
        · exact b6 t (by omega) t1 tb
      · exact .inr b4
