/-! WAYS: what is closed already is spread for nothing; empty lines -/
theorem e42_k0 {M : zM} {n m : Nat} {b : Int → Int} {h : Int} {c X Y : Int} (r0 : zPC M) (hb : ∀ y, 0 ≤ y → y < 1024 → M 19 y = b y) (t0 : 0 ≤ M 21 2) (hr : ∀ c' w', zad b h c' c w' → M 20 c' ≤ M 20 c + w') (hc : (0 ≤ c ∧ c < 2048) ∧ b (c / 2) = 0) (hX : (c % 2 = 0 ∧ Y = c / 2 / 32 ∧ (X = c / 2 % 32 + 1 ∨ X = c / 2 % 32 - 1)) ∨ (c % 2 = 1 ∧ X = c / 2 % 32 ∧ (Y = c / 2 / 32 + 1 ∨ Y = c / 2 / 32 - 1))) : (((0 ≤ X ∧ X ≤ 31) ∧ (0 ≤ Y ∧ Y ≤ 31) ∧ M 19 (Y * 32 + X) = 0) ∧ zex 43 0 [] [(2, 18), (0, (Y * 32 + X) * 2 + c % 2 % 2), (0, M 20 c + 1), (2, 21)] M (zKs, n, m) = some ((9, 0), M, (zKs, n, m))) ∨ ¬ ((0 ≤ X ∧ X ≤ 31) ∧ (0 ≤ Y ∧ Y ≤ 31) ∧ M 19 (Y * 32 + X) = 0) := by
  by_cases f : (0 ≤ X ∧ X ≤ 31) ∧ (0 ≤ Y ∧ Y ≤ 31) ∧ M 19 (Y * 32 + X) = 0
  · obtain ⟨f1, f2, f3⟩ := id f
    have t : ((Y * 32 + X) * 2 + c % 2 % 2) / 2 = Y * 32 + X := by omega
    have z : zad b h ((Y * 32 + X) * 2 + c % 2 % 2) c 1 := by
      refine ⟨⟨by omega, by rw [t, ← hb _ (by omega) (by omega)]; exact f3⟩, hc, .inl ⟨rfl, ?_⟩⟩
      rcases hX with ⟨a1, a2, a3⟩ | ⟨a1, a2, a3⟩
      · exact .inl ⟨by omega, by omega, by omega⟩
      · exact .inr ⟨by omega, by omega⟩
    have g := hr _ _ z
    have e := e43 (n := n) (m := m) (a := 21) (x := (Y * 32 + X) * 2 + c % 2 % 2) (v := M 20 c + 1) r0 (.inl rfl) z.1.1 ⟨t0, fun k => by omega⟩
    rw [if_pos g] at e
    exact .inl ⟨f, e⟩
  · exact .inr f
theorem e42X {M : zM} {n m : Nat} {b : Int → Int} {h : Int} {c : Int} {d2 d3 d4 d5 d6 : zV} (r0 : zPC M) (hb : ∀ y, 0 ≤ y → y < 1024 → M 19 y = b y) (t0 : 0 ≤ M 21 2) (t1 : 0 ≤ M 23 2) (hr : ∀ c' w', zad b h c' c w' → M 20 c' ≤ M 20 c + w') (hc : (0 ≤ c ∧ c < 2048) ∧ b (c / 2) = 0) (hh : 1 ≤ h ∧ h ≤ 8) (hT : M 18 5 = 4 * h) (hu : -10 ≤ M 20 c ∧ M 20 c < 1073741824) : zex 42 0 [] [(2, 18), (0, c), d2, d3, d4, d5, d6] M (zKs, n, m) = some ((9, 0), M, (zKs, n, m)) := by
  obtain ⟨dx, dy, s2, s3, hd⟩ := e42_d c hc.1.1
  obtain ⟨hc1, hc2⟩ := id hc
  have l2 : ∀ N : zM, zsl N 2 = 4 := fun _ => rfl
  have l3 : ∀ N : zM, zsl N 3 = 4 := fun _ => rfl
  have A : zex 42 0 [] [(2, 18), (0, c), d2, d3, d4, d5, d6] M (zKs, n, m) = zex 42 53 [] [(2, 18), (0, c), (0, c % 2), (0, c / 2), (0, c / 2 % 32), (0, c / 2 / 32), (0, M 20 c + 1)] M (zKs, n, m) := by
    rw [q42_0]
    rcases e42_k0 (n := n) (m := m) (X := c / 2 % 32 + dx) (Y := c / 2 / 32 + dy) r0 hb t0 hr hc (by omega) with ⟨⟨f1, f2, f3⟩, e⟩ | nf
    · simp (disch := omega) only [zp_18_2 r0, zp_18_3 r0, zk_18, zk_20, ztd_p, ztm_p, s2, s3, l2, l3, e36 r0, f1, f2, f3, e40, e, zg_pos, zI, ↓reduceIte, Int.reduceEq, Int.reduceLE, Int.reduceLT, Int.reduceAdd, Int.reduceSub, Int.reduceMul, Int.reduceNeg, zg_T, zbI_ok, zbL_ok, zbN_ok, zite1, zite2, zite3, zem, Int.cast_ofNat_Int, and_self, and_true, true_and, or_true, true_or, or_self, ite_not, if_true, if_false, not_true_eq_false, not_false_eq_true]
    · simp (disch := omega) only [zp_18_2 r0, zp_18_3 r0, zk_18, zk_20, ztd_p, ztm_p, s2, s3, l2, l3, e36 r0, nf, zg_pos, zI, ↓reduceIte, Int.reduceEq, Int.reduceLE, Int.reduceLT, Int.reduceAdd, Int.reduceSub, Int.reduceMul, Int.reduceNeg, zg_T, zbI_ok, zbL_ok, zbN_ok, zite1, zite2, zite3, zem, Int.cast_ofNat_Int, and_self, and_true, true_and, or_true, true_or, or_self, ite_not, if_true, if_false, not_true_eq_false, not_false_eq_true]
  have B : zex 42 53 [] [(2, 18), (0, c), (0, c % 2), (0, c / 2), (0, c / 2 % 32), (0, c / 2 / 32), (0, M 20 c + 1)] M (zKs, n, m) = zex 42 83 [] [(2, 18), (0, c), (0, c % 2), (0, c / 2), (0, c / 2 % 32), (0, c / 2 / 32), (0, M 20 c + 1)] M (zKs, n, m) := by
    rw [q42_53]
    rcases e42_k0 (n := n) (m := m) (X := c / 2 % 32 - dx) (Y := c / 2 / 32 - dy) r0 hb t0 hr hc (by omega) with ⟨⟨f1, f2, f3⟩, e⟩ | nf
    · simp (disch := omega) only [zp_18_2 r0, zp_18_3 r0, zk_18, zk_20, ztd_p, ztm_p, s2, s3, l2, l3, e36 r0, f1, f2, f3, e40, e, zg_pos, zI, ↓reduceIte, Int.reduceEq, Int.reduceLE, Int.reduceLT, Int.reduceAdd, Int.reduceSub, Int.reduceMul, Int.reduceNeg, zg_T, zbI_ok, zbL_ok, zbN_ok, zite1, zite2, zite3, zem, Int.cast_ofNat_Int, and_self, and_true, true_and, or_true, true_or, or_self, ite_not, if_true, if_false, not_true_eq_false, not_false_eq_true]
    · simp (disch := omega) only [zp_18_2 r0, zp_18_3 r0, zk_18, zk_20, ztd_p, ztm_p, s2, s3, l2, l3, e36 r0, nf, zg_pos, zI, ↓reduceIte, Int.reduceEq, Int.reduceLE, Int.reduceLT, Int.reduceAdd, Int.reduceSub, Int.reduceMul, Int.reduceNeg, zg_T, zbI_ok, zbL_ok, zbN_ok, zite1, zite2, zite3, zem, Int.cast_ofNat_Int, and_self, and_true, true_and, or_true, true_or, or_self, ite_not, if_true, if_false, not_true_eq_false, not_false_eq_true]
  have t : ((c / 2 / 32 * 32 + c / 2 % 32) * 2 + (1 - c % 2) % 2) / 2 = c / 2 := by omega
  have z : zad b h ((c / 2 / 32 * 32 + c / 2 % 32) * 2 + (1 - c % 2) % 2) c (4 * h) := ⟨⟨by omega, by rw [t]; exact hc2⟩, hc, .inr ⟨rfl, t, by omega⟩⟩
  have g := hr _ _ z
  have e := e43 (n := n) (m := m) (a := 23) (x := (c / 2 / 32 * 32 + c / 2 % 32) * 2 + (1 - c % 2) % 2) (v := M 20 c + 4 * h) r0 (.inr rfl) z.1.1 ⟨t1, fun k => by omega⟩
  rw [if_pos g] at e
  rw [A, B, q42_83]
  simp (disch := omega) only [zp_18_2 r0, zp_18_4 r0, zk_18, zk_20, hT, e40, e, zg_pos, zI, ↓reduceIte, Int.reduceEq, Int.reduceLE, Int.reduceLT, Int.reduceAdd, Int.reduceSub, Int.reduceMul, Int.reduceNeg, zg_T, zbI_ok, zbL_ok, zbN_ok, zite1, zite2, zite3, zem, Int.cast_ofNat_Int, and_self, and_true, true_and, or_true, true_or, or_self, ite_not, if_true, if_false, not_true_eq_false, not_false_eq_true]
theorem e41e {M : zM} {n m : Nat} (r0 : zPC M) (h1 : ¬ M 21 1 < M 21 2) (h2 : ¬ M 23 1 < M 23 2) : zex 41 0 [] [(2, 18)] M (zKs, n, m) = some ((0, -1), M, (zKs, n, m)) := by
  have k21 := zk_21 n m
  have k23 := zk_23 n m
  have s1 := e46 (M := M) k21
  have s2 := e46 (M := M) k23
  rw [if_neg h1] at s1
  rw [if_neg h2] at s2
  have u : zex 49 0 [] [(2, 21)] M (zKs, n, m) = some ((0, -1), M, (zKs, n, m)) := by
    simp only [q49_0, s1, k21, ↓reduceIte, Int.reduceEq, Int.reduceLE, Int.reduceLT, Int.reduceAdd, Int.reduceSub, Int.reduceMul, Int.reduceNeg, zg_T, zbI_ok, zbL_ok, zbN_ok, zite1, zite2, zite3, zem, Int.cast_ofNat_Int, and_self, and_true, true_and, or_true, true_or, or_self, ite_not, if_true, if_false, not_true_eq_false, not_false_eq_true]
  simp (disch := omega) only [q41_0, s2, u, zk_18, zk_21, zk_23, zp_18_3 r0, zp_18_4 r0, zg_pos, ↓reduceIte, Int.reduceEq, Int.reduceLE, Int.reduceLT, Int.reduceAdd, Int.reduceSub, Int.reduceMul, Int.reduceNeg, zg_T, zbI_ok, zbL_ok, zbN_ok, zite1, zite2, zite3, zem, Int.cast_ofNat_Int, and_self, and_true, true_and, or_true, true_or, or_self, ite_not, if_true, if_false, not_true_eq_false, not_false_eq_true]
