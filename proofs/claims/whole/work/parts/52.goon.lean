/-! THE CLASS'S RUNS: goOnTo, takeKinds, restart -/
theorem e64_l {n m : Nat} {c l wn k : Int → Int} {h : Int} {σ : zS} {E : Nat} (hct : zCt c l h) (hσ : zSk c l h 0 σ) (hE : E ≤ 4000) : ∀ (q v : Nat) (s : Int) (M : zM), E - v ≤ q → v ≤ E → 0 ≤ s → s + ((E - v : Nat) : Int) ≤ 4000 → zPC M → zCC M c l wn → M 2 3 = h → M 27 6 = (v : Int) → zSC M c l k (zit (zsp c k l h) v σ) → ∃ M', zex 64 2 [] [(2, 27), (0, (E : Int)), (0, s)] M (zKs, n, m) = some ((9, 0), M', (zKs, n, m)) ∧ M' 27 6 = (E : Int) ∧ zSC M' c l k (zit (zsp c k l h) E σ) ∧ zFc M M'
  | q, v, s, M, hq, hv, hs, hsE, r0, hC, hh, hu, hS => by
    by_cases e : v = E
    · subst e
      refine ⟨M, ?_, hu, hS, zFc.rfl⟩
      rw [q64_2, if_neg (by omega), zg_pos (zk_27 n m), hu, if_pos (by omega), q64_17]
    · match q, hq with
      | 0, hq => omega
      | q + 1, hq =>
        have ok := zSk_it (k := k) hct v 0 hσ
        obtain ⟨U, M1, m1, m2, m3, m4, m5, m6, m7⟩ := e65 (n := n) (m := m) (most := (E : Int) - v) r0 hC hct hh hS ok (by omega) (by omega) (by omega)
        have hU : ((v + U.toNat : Nat) : Int) = v + U := by omega
        rw [← zit_add] at m3
        obtain ⟨M2, p1, p2, p3, p4⟩ := e64_l (n := n) (m := m) hct hσ hE q (v + U.toNat) (s + 1) M1 (by omega) (by omega) (by omega) (by omega) (m7.pc r0) (m7.cc hC) (by rw [m7 _ _ (by omega), hh]) (by rw [m4, hu, hU]) m3
        refine ⟨M2, ?_, p2, p3, m7.trans p4⟩
        rw [q64_2, if_neg (by omega), zg_pos (zk_27 n m), hu, if_neg (by omega), zg_pos (zk_27 n m), zg_pos (by unfold zI; omega), zg_pos (zk_27 n m), m2, zbN_ok, zg_pos (by unfold zI; omega), p1]
theorem e64 {M : zM} {n m : Nat} {c l wn k : Int → Int} {h : Int} {σ : zS} {v E : Nat} {d : zV} (hct : zCt c l h) (hσ : zSk c l h 0 σ) (hE : E ≤ 4000) (hv : v ≤ E) (r0 : zPC M) (hC : zCC M c l wn) (hh : M 2 3 = h) (hu : M 27 6 = (v : Int)) (hS : zSC M c l k (zit (zsp c k l h) v σ)) : ∃ M', zex 64 0 [] [(2, 27), (0, (E : Int)), d] M (zKs, n, m) = some ((9, 0), M', (zKs, n, m)) ∧ M' 27 6 = (E : Int) ∧ zSC M' c l k (zit (zsp c k l h) E σ) ∧ zFc M M' := by
  obtain ⟨M', a1, a2⟩ := e64_l (n := n) (m := m) hct hσ hE (E - v) v 0 M (by omega) hv (by omega) (by omega) r0 hC hh hu hS
  exact ⟨M', by rw [q64_0, a1], a2⟩
theorem e60 {M : zM} {n m : Nat} {d : zV} (r0 : zPC M) : ∃ M', zex 60 0 [] [(2, 27), d] M (zKs, n, m) = some ((9, 0), M', (zKs, n, m)) ∧ (∀ a, 0 ≤ a → a ≤ 2 → ∀ i, 0 ≤ i → i < 40 → M' (30 + a) i = M (6 + 4 * a) i) ∧ (∀ r y, (r < 30 ∨ 32 < r) → M' r y = M r y) := by
  refine ⟨zcpy (zcpy (zcpy M 6 0 30 0 40) 10 0 31 0 40) 14 0 32 0 40, ?_, fun a h0 h2 i i0 i1 => ?_, fun r y hr => ?_⟩
  · simp (disch := omega) only [q60_0, q60_2, zk_2, zk_3, zk_5, zk_6, zk_9, zk_10, zk_13, zk_14, zk_27, zk_29, zk_30, zk_31, zk_32, zp_27_0 r0, zp_27_3 r0, zp_2_0 r0, zp_3_0 r0, zp_3_1 r0, zp_3_2 r0, zp_5_1 r0, zp_9_1 r0, zp_13_1 r0, zp_29_0 r0, zp_29_1 r0, zp_29_2 r0, zcpy_r, zg_pos, zI, ↓reduceIte, Int.reduceEq, Int.reduceLE, Int.reduceLT, Int.reduceAdd, Int.reduceSub, Int.reduceMul, Int.reduceNeg, zg_T, zbI_ok, zbL_ok, zbN_ok, zite1, zite2, zite3, zem, Int.cast_ofNat_Int, and_self, and_true, true_and, or_true, true_or, or_self, ite_not, if_true, if_false, not_true_eq_false, not_false_eq_true]
  · rcases (by omega : a = 0 ∨ a = 1 ∨ a = 2) with rfl | rfl | rfl
    · simp only [Int.reduceMul, Int.reduceAdd]
      rw [zcpy_r (by omega), zcpy_r (by omega), zcpy_in (by omega), show 0 + (i - 0) = i by omega]
    · simp only [Int.reduceMul, Int.reduceAdd]
      rw [zcpy_r (by omega), zcpy_in (by omega), zcpy_r (by omega), show 0 + (i - 0) = i by omega]
    · simp only [Int.reduceMul, Int.reduceAdd]
      rw [zcpy_in (by omega), zcpy_r (by omega), zcpy_r (by omega), show 0 + (i - 0) = i by omega]
  · rw [zcpy_r (by omega), zcpy_r (by omega), zcpy_r (by omega)]
theorem e61 {M : zM} {n m : Nat} {c l wn k : Int → Int} {sx sy sd : Int} {d : zV} (r0 : zPC M) (hC : zCC M c l wn) (hs : M 17 0 = 1000 * sx + 500 ∧ M 17 1 = 1000 * sy + 500 ∧ M 17 2 = sd ∧ M 17 3 = 0 ∧ M 17 4 = 0) (hk : ∀ a, 0 ≤ a → a ≤ 2 → ∀ i, 0 ≤ i → i < c a → M (30 + a) i = k (40 * a + i)) : ∃ M', zex 61 0 [] [(2, 27), d] M (zKs, n, m) = some ((9, 0), M', (zKs, n, m)) ∧ zSC M' c l k (zs0 sx sy sd) ∧ M' 27 6 = 0 ∧ (∀ r y, (30 ≤ r ∧ r ≤ 32) → M' r y = M r y) ∧ zFc M M' := by
  obtain ⟨s0, s1, s2, s3, s4⟩ := hs
  have c1 := e52 (M := M) (X := (zKs, n, m)) (r := 28) (s := 17) (zk_28 n m) (zk_17 n m) (by omega)
  rw [s0, s1, s2, s3, s4] at c1
  generalize hQ : zu (zu (zu (zu (zu (zu M 28 0 (1000 * sx + 500)) 28 1 (1000 * sy + 500)) 28 2 sd) 28 3 0) 28 4 0) 27 6 0 = Q
  have fQ : ∀ r y, ((r ≠ 28 ∨ y < 0 ∨ 4 < y) ∧ (r ≠ 27 ∨ y ≠ 6)) → Q r y = M r y := fun r y hr => by
    rw [← hQ]
    by_cases e : r = 27
    · rw [zun2 (by omega), zun (by omega), zun (by omega), zun (by omega), zun (by omega), zun (by omega)]
    · rw [zun e]
      by_cases e2 : r = 28
      · rw [zun2 (by omega), zun2 (by omega), zun2 (by omega), zun2 (by omega), zun2 (by omega)]
      · rw [zun e2, zun e2, zun e2, zun e2, zun e2]
  have FQ : zFc M Q := fun r y hr => fQ r y (by omega)
  have v0 : Q 28 0 = 1000 * sx + 500 ∧ Q 28 1 = 1000 * sy + 500 ∧ Q 28 2 = sd ∧ Q 28 3 = 0 ∧ Q 28 4 = 0 ∧ Q 27 6 = 0 := by
    rw [← hQ]
    simp (disch := omega) only [zun, zun2, zus]
    exact ⟨trivial, trivial, trivial, trivial, trivial, trivial⟩
  have q1 : zex 61 0 [] [(2, 27), d] M (zKs, n, m) = zex 61 10 [] [(2, 27), (0, 0)] Q (zKs, n, m) := by
    rw [← hQ]
    simp (disch := omega) only [q61_0, c1, zk_27, zk_28, zp_27_1 r0, zp_27_2 r0, zg_pos, ↓reduceIte, Int.reduceEq, Int.reduceLE, Int.reduceLT, Int.reduceAdd, Int.reduceSub, Int.reduceMul, Int.reduceNeg, zg_T, zbI_ok, zbL_ok, zbN_ok, zite1, zite2, zite3, zem, Int.cast_ofNat_Int, and_self, and_true, true_and, or_true, true_or, or_self, ite_not, if_true, if_false, not_true_eq_false, not_false_eq_true]
  have rQ := FQ.pc r0
  have CQ := FQ.cc hC
  have g0 := e68 (n := n) (m := m) (a := 0) (i := 0) rQ CQ (by omega) (by omega)
  generalize hA : zu (zu Q 33 0 0) 34 0 (if 0 < c 0 then l (40 * 0 + 0) else 0) = A at g0
  have FA : zFc M A := by rw [← hA]; exact FQ.trans ((zFc.rfl.zu (by omega)).trans (zFc.rfl.zu (by omega)))
  have g1 := e68 (n := n) (m := m) (a := 1) (i := 0) (FA.pc r0) (FA.cc hC) (by omega) (by omega)
  generalize hB : zu (zu A 33 1 0) 34 1 (if 0 < c 1 then l (40 * 1 + 0) else 0) = B at g1
  have FB : zFc M B := by rw [← hB]; exact FA.trans ((zFc.rfl.zu (by omega)).trans (zFc.rfl.zu (by omega)))
  have g2 := e68 (n := n) (m := m) (a := 2) (i := 0) (FB.pc r0) (FB.cc hC) (by omega) (by omega)
  generalize hD : zu (zu B 33 2 0) 34 2 (if 0 < c 2 then l (40 * 2 + 0) else 0) = D at g2
  have FD : zFc M D := by rw [← hD]; exact FB.trans ((zFc.rfl.zu (by omega)).trans (zFc.rfl.zu (by omega)))
  have o : ∀ r y, (r ≠ 33 ∧ r ≠ 34) → D r y = Q r y := fun r y hr => by
    rw [← hD, ← hB, ← hA]
    simp (disch := omega) only [zun]
  refine ⟨D, ?_, ⟨⟨⟨?_, ?_, ?_, ?_⟩, ?_⟩, fun a h0 h2 => ⟨?_, ?_, fun i i0 i1 => ?_⟩⟩, ?_, fun r y hr => ?_, FD⟩
  · rw [q1]
    simp (disch := omega) only [q61_10, g0, g1, g2, zk_27, zg_pos, zI, ↓reduceIte, Int.reduceEq, Int.reduceLE, Int.reduceLT, Int.reduceAdd, Int.reduceSub, Int.reduceMul, Int.reduceNeg, zg_T, zbI_ok, zbL_ok, zbN_ok, zite1, zite2, zite3, zem, Int.cast_ofNat_Int, and_self, and_true, true_and, or_true, true_or, or_self, ite_not, if_true, if_false, not_true_eq_false, not_false_eq_true]
  · rw [o _ _ (by omega), v0.1]; rfl
  · rw [o _ _ (by omega), v0.2.1]; rfl
  · rw [o _ _ (by omega), v0.2.2.1]; rfl
  · rw [o _ _ (by omega), v0.2.2.2.1]; rfl
  · rw [o _ _ (by omega), v0.2.2.2.2.1]; rfl
  · show D 33 a = 0
    rw [← hD, ← hB, ← hA]
    rcases (by omega : a = 0 ∨ a = 1 ∨ a = 2) with rfl | rfl | rfl <;> simp (disch := omega) only [zun, zun2, zus]
  · show D 34 a = if 0 < c a then l (40 * a + 0) - 0 else 0
    rw [Int.sub_zero, ← hD, ← hB, ← hA]
    rcases (by omega : a = 0 ∨ a = 1 ∨ a = 2) with rfl | rfl | rfl <;> simp (disch := omega) only [zun, zun2, zus]
  · rw [o _ _ (by omega), fQ _ _ (by omega)]
    exact hk a h0 h2 i i0 i1
  · rw [o _ _ (by omega), v0.2.2.2.2.2]
  · rw [o _ _ (by omega), fQ _ _ (by omega)]
