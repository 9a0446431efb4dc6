/-! THE CLASS'S RUNS: axles -/
theorem zrp29 {M : zM} (h : zPC M) {a : Int} (ha : 0 ≤ a ∧ a ≤ 2) : M 29 a = 30 + a := by
  rcases (by omega : a = 0 ∨ a = 1 ∨ a = 2) with rfl | rfl | rfl
  · exact zp_29_0 h
  · exact zp_29_1 h
  · exact zp_29_2 h
theorem zrk29 (n m : Nat) {a : Int} (ha : 0 ≤ a ∧ a ≤ 2) : zkd (zKs, n, m) (30 + a) = (0, 40) := by
  rcases (by omega : a = 0 ∨ a = 1 ∨ a = 2) with rfl | rfl | rfl
  · exact zk_30 n m
  · exact zk_31 n m
  · exact zk_32 n m
/-- what a run of the class leaves as it was -/
def zFc (M M' : zM) : Prop := ∀ r y, (r < 27 ∨ (r = 27 ∧ y ≠ 6 ∧ y ≠ 8) ∨ r = 29 ∨ 35 < r) → M' r y = M r y
theorem zFc.trans {M M' M'' : zM} (h : zFc M M') (h' : zFc M' M'') : zFc M M'' := fun r y hr => (h' r y hr).trans (h r y hr)
theorem zFc.rfl {M : zM} : zFc M M := fun _ _ _ => Eq.refl _
theorem zFc.pc {M M' : zM} (h : zFc M M') (r0 : zPC M) : zPC M' := zPC_t (fun r y => decide (r = 28) || decide (30 ≤ r ∧ r ≤ 35) || decide (r = 27 ∧ (y = 6 ∨ y = 8))) (by decide +kernel) r0 (fun r y hr => h r y (by simp at hr; omega))
theorem zFc.zu {M M' : zM} {a b v : Int} (h : zFc M M') (ha : (a = 27 ∧ (b = 6 ∨ b = 8)) ∨ a = 28 ∨ (30 ≤ a ∧ a ≤ 35)) : zFc M (zu M' a b v) := fun r y hr => by
  by_cases e : r = a
  · rw [zun2 (by omega)]
    exact h r y hr
  · rw [zun e]
    exact h r y hr
/-- the class's cords -/
def zCC (M : zM) (c l wn : Int → Int) : Prop := ∀ a, 0 ≤ a → a ≤ 2 → M (5 + 4 * a) 0 = c a ∧ (0 ≤ c a ∧ c a ≤ 40) ∧ ∀ i, 0 ≤ i → i < c a → M (7 + 4 * a) i = l (40 * a + i) ∧ M (8 + 4 * a) i = wn (40 * a + i)
theorem zFc.cc {M M' : zM} {c l wn : Int → Int} (h : zFc M M') (hC : zCC M c l wn) : zCC M' c l wn := fun a h0 h2 => by
  obtain ⟨c1, c2, c3⟩ := hC a h0 h2
  rw [h _ _ (by omega)]
  exact ⟨c1, c2, fun i i0 i1 => by rw [h _ _ (by omega), h _ _ (by omega)]; exact c3 i i0 i1⟩
/-- the class holds a run's state -/
def zSA (M : zM) (c l k p g : Int → Int) (a : Int) : Prop := M 33 a = p a ∧ M 34 a = (if p a < c a then l (40 * a + p a) - g a else 0) ∧ ∀ i, 0 ≤ i → i < c a → M (30 + a) i = k (40 * a + i)
def zSC (M : zM) (c l k : Int → Int) (σ : zS) : Prop := (zPo M 28 σ.1 ∧ M 28 4 = σ.2.1) ∧ ∀ a, 0 ≤ a → a ≤ 2 → zSA M c l k σ.2.2.1 σ.2.2.2 a
theorem e62 {M : zM} {n m : Nat} {c l wn : Int → Int} {a : Int} (r0 : zPC M) (hC : zCC M c l wn) (ha : 0 ≤ a ∧ a ≤ 2) : zex 62 0 [] [(2, 27), (0, a)] M (zKs, n, m) = some ((0, if M 33 a < c a then 0 else 1), M, (zKs, n, m)) := by
  have c1 := (hC a ha.1 ha.2).1
  by_cases e : M 33 a < c a
  · simp (disch := omega) only [q62_0, q62_14, zk_2, zk_3, zk_27, zk_33, zp_27_0 r0, zp_27_4 r0, zp_2_0 r0, zrp3 r0 ha, zrk3 n m ha, c1, e, zg_pos, ↓reduceIte, Int.reduceEq, Int.reduceLE, Int.reduceLT, Int.reduceAdd, Int.reduceSub, Int.reduceMul, Int.reduceNeg, zg_T, zbI_ok, zbL_ok, zbN_ok, zite1, zite2, zite3, zem, Int.cast_ofNat_Int, and_self, and_true, true_and, or_true, true_or, or_self, ite_not, if_true, if_false, not_true_eq_false, not_false_eq_true]
  · simp (disch := omega) only [q62_0, q62_14, zk_2, zk_3, zk_27, zk_33, zp_27_0 r0, zp_27_4 r0, zp_2_0 r0, zrp3 r0 ha, zrk3 n m ha, c1, e, zg_pos, ↓reduceIte, Int.reduceEq, Int.reduceLE, Int.reduceLT, Int.reduceAdd, Int.reduceSub, Int.reduceMul, Int.reduceNeg, zg_T, zbI_ok, zbL_ok, zbN_ok, zite1, zite2, zite3, zem, Int.cast_ofNat_Int, and_self, and_true, true_and, or_true, true_or, or_self, ite_not, if_true, if_false, not_true_eq_false, not_false_eq_true]
theorem e66 {M : zM} {n m : Nat} {c l wn k p : Int → Int} {a : Int} (r0 : zPC M) (hC : zCC M c l wn) (ha : 0 ≤ a ∧ a ≤ 2) (hp : M 33 a = p a) (hp0 : 0 ≤ p a) (hk : ∀ i, 0 ≤ i → i < c a → M (30 + a) i = k (40 * a + i)) : zex 66 0 [] [(2, 27), (0, a)] M (zKs, n, m) = some ((0, ztn c k p a), M, (zKs, n, m)) := by
  have c2 := (hC a ha.1 ha.2).2.1
  have c1 := e62 (n := n) (m := m) r0 hC ha
  rw [hp] at c1
  unfold ztn
  by_cases e : p a < c a
  · rw [if_pos e] at c1 ⊢
    have k1 := hk _ hp0 e
    by_cases f1 : k (40 * a + p a) = 0
    · simp (disch := omega) only [q66_0, c1, zk_27, zk_29, zk_33, zp_27_3 r0, zp_27_4 r0, zrp29 r0 ha, zrk29 n m ha, hp, k1, f1, zg_pos, ↓reduceIte, Int.reduceEq, Int.reduceLE, Int.reduceLT, Int.reduceAdd, Int.reduceSub, Int.reduceMul, Int.reduceNeg, zg_T, zbI_ok, zbL_ok, zbN_ok, zite1, zite2, zite3, zem, Int.cast_ofNat_Int, and_self, and_true, true_and, or_true, true_or, or_self, ite_not, if_true, if_false, not_true_eq_false, not_false_eq_true]
    · by_cases f2 : k (40 * a + p a) = 1
      · simp (disch := omega) only [q66_0, c1, zk_27, zk_29, zk_33, zp_27_3 r0, zp_27_4 r0, zrp29 r0 ha, zrk29 n m ha, hp, k1, f2, zg_pos, ↓reduceIte, Int.reduceEq, Int.reduceLE, Int.reduceLT, Int.reduceAdd, Int.reduceSub, Int.reduceMul, Int.reduceNeg, zg_T, zbI_ok, zbL_ok, zbN_ok, zite1, zite2, zite3, zem, Int.cast_ofNat_Int, and_self, and_true, true_and, or_true, true_or, or_self, ite_not, if_true, if_false, not_true_eq_false, not_false_eq_true]
      · simp (disch := omega) only [q66_0, c1, zk_27, zk_29, zk_33, zp_27_3 r0, zp_27_4 r0, zrp29 r0 ha, zrk29 n m ha, hp, k1, f1, f2, zg_pos, ↓reduceIte, Int.reduceEq, Int.reduceLE, Int.reduceLT, Int.reduceAdd, Int.reduceSub, Int.reduceMul, Int.reduceNeg, zg_T, zbI_ok, zbL_ok, zbN_ok, zite1, zite2, zite3, zem, Int.cast_ofNat_Int, and_self, and_true, true_and, or_true, true_or, or_self, ite_not, if_true, if_false, not_true_eq_false, not_false_eq_true]
  · rw [if_neg e] at c1 ⊢
    simp (disch := omega) only [q66_0, c1, zk_27, zg_pos, ↓reduceIte, Int.reduceEq, Int.reduceLE, Int.reduceLT, Int.reduceAdd, Int.reduceSub, Int.reduceMul, Int.reduceNeg, zg_T, zbI_ok, zbL_ok, zbN_ok, zite1, zite2, zite3, zem, Int.cast_ofNat_Int, and_self, and_true, true_and, or_true, true_or, or_self, ite_not, if_true, if_false, not_true_eq_false, not_false_eq_true]
theorem e68 {M : zM} {n m : Nat} {c l wn : Int → Int} {a i : Int} (r0 : zPC M) (hC : zCC M c l wn) (ha : 0 ≤ a ∧ a ≤ 2) (hi : 0 ≤ i) : zex 68 0 [] [(2, 27), (0, a), (0, i), (9, 0)] M (zKs, n, m) = some ((9, 0), zu (zu M 33 a i) 34 a (if i < c a then l (40 * a + i) else 0), (zKs, n, m)) := by
  obtain ⟨c1, c2, c3⟩ := hC a ha.1 ha.2
  have hcd := zCd3 r0 n m ha
  have hi0 : ¬ i < 0 := by omega
  have e7 : 5 + 4 * a + 2 = 7 + 4 * a := by omega
  by_cases e : i < c a
  · have e' : ¬ c a ≤ i := by omega
    have l1 := (c3 i hi e).1
    have k2 := hcd.2.2.2.1
    have k6 := hcd.2.2.2.2.2.2.1
    rw [e7] at k2 k6
    simp (disch := omega) only [q68_0, q68_26, zk_2, zk_3, zk_27, zk_33, zk_34, zp_27_0 r0, zp_27_4 r0, zp_27_5 r0, zp_2_0 r0, zrp3 r0 ha, zrk3 n m ha, k2, k6, c1, l1, e, e', hi0, zun, zg_pos, ↓reduceIte, Int.reduceEq, Int.reduceLE, Int.reduceLT, Int.reduceAdd, Int.reduceSub, Int.reduceMul, Int.reduceNeg, zg_T, zbI_ok, zbL_ok, zbN_ok, zite1, zite2, zite3, zem, Int.cast_ofNat_Int, and_self, and_true, true_and, or_true, true_or, or_self, ite_not, if_true, if_false, not_true_eq_false, not_false_eq_true]
  · have e' : c a ≤ i := by omega
    simp (disch := omega) only [q68_0, q68_25, q68_26, zk_2, zk_3, zk_27, zk_33, zk_34, zp_27_0 r0, zp_27_4 r0, zp_27_5 r0, zp_2_0 r0, zrp3 r0 ha, zrk3 n m ha, c1, e, e', hi0, zun, zg_pos, ↓reduceIte, Int.reduceEq, Int.reduceLE, Int.reduceLT, Int.reduceAdd, Int.reduceSub, Int.reduceMul, Int.reduceNeg, zg_T, zbI_ok, zbL_ok, zbN_ok, zite1, zite2, zite3, zem, Int.cast_ofNat_Int, and_self, and_true, true_and, or_true, true_or, or_self, ite_not, if_true, if_false, not_true_eq_false, not_false_eq_true]
/-- give at one axle, so many units u that no segment ends before -/
theorem e67 {M : zM} {n m : Nat} {c l wn k p g : Int → Int} {a u : Int} (r0 : zPC M) (hC : zCC M c l wn) (ha : 0 ≤ a ∧ a ≤ 2) (hs : zSA M c l k p g a) (hp0 : 0 ≤ p a) (hg : 0 ≤ g a ∧ g a ≤ 200) (hl : p a < c a → l (40 * a + p a) ≤ 200) (hu : 1 ≤ u ∧ u ≤ 10000) (hue : p a < c a → u ≤ l (40 * a + p a) - g a) : ∃ M', zex 67 0 [] [(2, 27), (0, a), (0, u)] M (zKs, n, m) = some ((9, 0), M', (zKs, n, m)) ∧ zSA M' c l k (fun b => if p b < c b ∧ g b + u = l (40 * b + p b) then p b + 1 else p b) (fun b => if p b < c b then (if g b + u = l (40 * b + p b) then 0 else g b + u) else g b) a ∧ M' 35 a = (if p a < c a ∧ g a + u = l (40 * a + p a) then 1 else 0) ∧ ∀ r y, ((r < 33 ∨ 35 < r) ∨ y ≠ a) → M' r y = M r y := by
  obtain ⟨c1, c2, c3⟩ := hC a ha.1 ha.2
  obtain ⟨s1, s2, s3⟩ := hs
  have k0 : zPC (zu M 35 a 0) := zPC_zu r0 (zPC_row (by decide +kernel))
  have C0 : zCC (zu M 35 a 0) c l wn := (zFc.rfl.zu (by omega) : zFc M (zu M 35 a 0)).cc hC
  have c4 := e62 (n := n) (m := m) k0 C0 ha
  rw [zun (by omega), s1] at c4
  by_cases e : p a < c a
  · rw [if_pos e] at c4 s2
    have u1 := hue e
    have l1 := hl e
    have k1 : zPC (zu (zu M 35 a 0) 34 a (l (40 * a + p a) - g a - u)) := zPC_zu k0 (zPC_row (by decide +kernel))
    have q1 : zex 67 0 [] [(2, 27), (0, a), (0, u)] M (zKs, n, m) = zex 67 18 [] [(2, 27), (0, a), (0, u)] (zu (zu M 35 a 0) 34 a (l (40 * a + p a) - g a - u)) (zKs, n, m) := by
      simp (disch := omega) only [q67_0, q67_5, zk_27, zk_34, zk_35, zp_27_7 r0, zp_27_5 r0, c4, s2, zun, zg_pos, zI, ↓reduceIte, Int.reduceEq, Int.reduceLE, Int.reduceLT, Int.reduceAdd, Int.reduceSub, Int.reduceMul, Int.reduceNeg, zg_T, zbI_ok, zbL_ok, zbN_ok, zite1, zite2, zite3, zem, Int.cast_ofNat_Int, and_self, and_true, true_and, or_true, true_or, or_self, ite_not, if_true, if_false, not_true_eq_false, not_false_eq_true]
    by_cases f : g a + u = l (40 * a + p a)
    · have hA : p a < c a ∧ g a + u = l (40 * a + p a) := ⟨e, f⟩
      have f2 : ¬ 0 < l (40 * a + p a) - g a - u := by omega
      have k2 : zPC (zu (zu (zu M 35 a 0) 34 a (l (40 * a + p a) - g a - u)) 35 a 1) := zPC_zu k1 (zPC_row (by decide +kernel))
      have C2 : zCC (zu (zu (zu M 35 a 0) 34 a (l (40 * a + p a) - g a - u)) 35 a 1) c l wn := ((((zFc.rfl.zu (by omega) : zFc M (zu M 35 a 0)).zu (by omega) : zFc M (zu (zu M 35 a 0) 34 a (l (40 * a + p a) - g a - u)))).zu (by omega) : zFc M (zu (zu (zu M 35 a 0) 34 a (l (40 * a + p a) - g a - u)) 35 a 1)).cc hC
      have c5 := e68 (n := n) (m := m) (i := p a + 1) k2 C2 ha (by omega)
      refine ⟨zu (zu (zu (zu (zu M 35 a 0) 34 a (l (40 * a + p a) - g a - u)) 35 a 1) 33 a (p a + 1)) 34 a (if p a + 1 < c a then l (40 * a + (p a + 1)) else 0), (q1.trans ?_), ⟨?_, ?_, fun i i0 i1 => ?_⟩, ?_, fun r y hr => ?_⟩
      · simp (disch := omega) only [q67_18, q67_28, q67_37, zk_27, zk_33, zk_34, zk_35, zp_27_4 r0, zp_27_5 r0, zp_27_7 r0, f2, s1, c5, zun, zus, zg_pos, zI, ↓reduceIte, Int.reduceEq, Int.reduceLE, Int.reduceLT, Int.reduceAdd, Int.reduceSub, Int.reduceMul, Int.reduceNeg, zg_T, zbI_ok, zbL_ok, zbN_ok, zite1, zite2, zite3, zem, Int.cast_ofNat_Int, and_self, and_true, true_and, or_true, true_or, or_self, ite_not, if_true, if_false, not_true_eq_false, not_false_eq_true]
      · dsimp only
        rw [if_pos hA, zun (by omega), zus]
      · dsimp only
        simp only [if_pos hA, if_pos e, if_pos f, zus, Int.sub_zero]
      · simp (disch := omega) only [zun]
        exact s3 i i0 i1
      · rw [if_pos hA, zun (by omega), zun (by omega), zus]
      · by_cases ey : y = a
        · simp (disch := omega) only [zun]
        · simp (disch := omega) only [zun2]
    · have hB : ¬ (p a < c a ∧ g a + u = l (40 * a + p a)) := fun x => f x.2
      have f2 : 0 < l (40 * a + p a) - g a - u := by omega
      refine ⟨zu (zu M 35 a 0) 34 a (l (40 * a + p a) - g a - u), (q1.trans ?_), ⟨?_, ?_, fun i i0 i1 => ?_⟩, ?_, fun r y hr => ?_⟩
      · simp (disch := omega) only [q67_18, q67_37, zk_27, zk_34, zp_27_5 r0, f2, zun, zus, zg_pos, zI, ↓reduceIte, Int.reduceEq, Int.reduceLE, Int.reduceLT, Int.reduceAdd, Int.reduceSub, Int.reduceMul, Int.reduceNeg, zg_T, zbI_ok, zbL_ok, zbN_ok, zite1, zite2, zite3, zem, Int.cast_ofNat_Int, and_self, and_true, true_and, or_true, true_or, or_self, ite_not, if_true, if_false, not_true_eq_false, not_false_eq_true]
      · dsimp only
        rw [if_neg hB, zun (by omega), zun (by omega), s1]
      · dsimp only
        simp only [if_neg hB, if_pos e, if_neg f, zus]
        omega
      · simp (disch := omega) only [zun]
        exact s3 i i0 i1
      · rw [if_neg hB, zun (by omega), zus]
      · by_cases ey : y = a
        · simp (disch := omega) only [zun]
        · simp (disch := omega) only [zun2]
  · have hD : ¬ (p a < c a ∧ g a + u = l (40 * a + p a)) := fun x => e x.1
    rw [if_neg e] at c4 s2
    refine ⟨zu M 35 a 0, ?_, ⟨?_, ?_, fun i i0 i1 => ?_⟩, ?_, fun r y hr => ?_⟩
    · simp (disch := omega) only [q67_0, q67_5, zk_27, zk_35, zp_27_7 r0, c4, zg_pos, ↓reduceIte, Int.reduceEq, Int.reduceLE, Int.reduceLT, Int.reduceAdd, Int.reduceSub, Int.reduceMul, Int.reduceNeg, zg_T, zbI_ok, zbL_ok, zbN_ok, zite1, zite2, zite3, zem, Int.cast_ofNat_Int, and_self, and_true, true_and, or_true, true_or, or_self, ite_not, if_true, if_false, not_true_eq_false, not_false_eq_true]
    · dsimp only
      rw [if_neg hD, zun (by omega), s1]
    · dsimp only
      simp only [if_neg hD, if_neg e]
      rw [zun (by omega), s2]
    · simp (disch := omega) only [zun]
      exact s3 i i0 i1
    · rw [if_neg hD, zus]
    · by_cases ey : y = a
      · simp (disch := omega) only [zun]
      · simp (disch := omega) only [zun2]
