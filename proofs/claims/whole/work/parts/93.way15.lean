/-! WAYS: the class's spread -/
theorem e42_d (c : Int) (hc : 0 ≤ c) : ∃ dx dy : Int, (∀ N : zM, zsv N 2 (c % 2) = dx) ∧ (∀ N : zM, zsv N 3 (c % 2) = dy) ∧ ((c % 2 = 0 ∧ dx = 1 ∧ dy = 0) ∨ (c % 2 = 1 ∧ dx = 0 ∧ dy = 1)) := by
  refine ⟨zax (c % 2), zay (c % 2), fun N => (zsv2 (by omega)).1, fun N => (zsv2 (by omega)).2, ?_⟩
  have k : c % 2 = 0 ∨ c % 2 = 1 := by omega
  rcases k with k | k <;> rw [k]
  · exact .inl ⟨rfl, by decide, by decide⟩
  · exact .inr ⟨rfl, by decide, by decide⟩
theorem e42_A {M : zM} {n m : Nat} {b : Int → Int} {h gx gy : Int} {D : Int → Int} {w L : Int} {K : Int → Int} {c dx dy : Int} {d2 d3 d4 d5 d6 : zV} (r0 : zPC M) (hb : ∀ y, 0 ≤ y → y < 1024 → M 19 y = b y) (J : zJM M b h D w L K c) (hD : zDF b h gx gy D) (hh : 1 ≤ h ∧ h ≤ 8) (hx : M 20 c = L ∧ L < 1073741824) (hl : 0 ≤ L) (hc : (0 ≤ c ∧ c < 2048) ∧ b (c / 2) = 0) (s2 : ∀ N : zM, zsv N 2 (c % 2) = dx) (s3 : ∀ N : zM, zsv N 3 (c % 2) = dy) (hd : (c % 2 = 0 ∧ dx = 1 ∧ dy = 0) ∨ (c % 2 = 1 ∧ dx = 0 ∧ dy = 1)) : ∃ M', zex 42 0 [] [(2, 18), (0, c), d2, d3, d4, d5, d6] M (zKs, n, m) = zex 42 53 [] [(2, 18), (0, c), (0, c % 2), (0, c / 2), (0, c / 2 % 32), (0, c / 2 / 32), (0, L + 1)] M' (zKs, n, m) ∧ zSp M M' b h D w L c ∧ (zad b h (((c / 2 / 32 + dy) * 32 + (c / 2 % 32 + dx)) * 2 + c % 2 % 2) c 1 → M' 20 (((c / 2 / 32 + dy) * 32 + (c / 2 % 32 + dx)) * 2 + c % 2 % 2) ≤ L + 1) := by
  obtain ⟨hx1, hx2⟩ := hx
  obtain ⟨hc1, hc2⟩ := id hc
  have l2 : ∀ N : zM, zsl N 2 = 4 := fun _ => rfl
  have l3 : ∀ N : zM, zsl N 3 = 4 := fun _ => rfl
  rcases e42_k (n := n) (m := m) (X := c / 2 % 32 + dx) (Y := c / 2 / 32 + dy) r0 hb J hD hh ⟨hx1, hx2⟩ hc (by omega) with ⟨f, z, M', e, sp, le⟩ | ⟨nf, nz⟩
  · obtain ⟨f1, f2, f3⟩ := f
    refine ⟨M', ?_, sp, fun _ => le⟩
    rw [q42_0]
    simp (disch := omega) only [zp_18_2 r0, zp_18_3 r0, zk_18, zk_20, ztd_p, ztm_p, s2, s3, l2, l3, hx1, e36 r0, f1, f2, f3, e40, e, zg_pos, zI, ↓reduceIte, Int.reduceEq, Int.reduceLE, Int.reduceLT, Int.reduceAdd, Int.reduceSub, Int.reduceMul, Int.reduceNeg, zg_T, zbI_ok, zbL_ok, zbN_ok, zite1, zite2, zite3, zem, Int.cast_ofNat_Int, and_self, and_true, true_and, or_true, true_or, or_self, ite_not, if_true, if_false, not_true_eq_false, not_false_eq_true]
  · refine ⟨M, ?_, ⟨fun _ _ _ => rfl, ⟨K, J⟩, fun _ => Int.le_refl _, hx1⟩, fun z => absurd z nz⟩
    rw [q42_0]
    simp (disch := omega) only [zp_18_2 r0, zp_18_3 r0, zk_18, zk_20, ztd_p, ztm_p, s2, s3, l2, l3, hx1, e36 r0, nf, zg_pos, zI, ↓reduceIte, Int.reduceEq, Int.reduceLE, Int.reduceLT, Int.reduceAdd, Int.reduceSub, Int.reduceMul, Int.reduceNeg, zg_T, zbI_ok, zbL_ok, zbN_ok, zite1, zite2, zite3, zem, Int.cast_ofNat_Int, and_self, and_true, true_and, or_true, true_or, or_self, ite_not, if_true, if_false, not_true_eq_false, not_false_eq_true]
theorem e42_B {M : zM} {n m : Nat} {b : Int → Int} {h gx gy : Int} {D : Int → Int} {w L : Int} {K : Int → Int} {c dx dy : Int} (r0 : zPC M) (hb : ∀ y, 0 ≤ y → y < 1024 → M 19 y = b y) (J : zJM M b h D w L K c) (hD : zDF b h gx gy D) (hh : 1 ≤ h ∧ h ≤ 8) (hx : M 20 c = L ∧ L < 1073741824) (hl : 0 ≤ L) (hc : (0 ≤ c ∧ c < 2048) ∧ b (c / 2) = 0) (s2 : ∀ N : zM, zsv N 2 (c % 2) = dx) (s3 : ∀ N : zM, zsv N 3 (c % 2) = dy) (hd : (c % 2 = 0 ∧ dx = 1 ∧ dy = 0) ∨ (c % 2 = 1 ∧ dx = 0 ∧ dy = 1)) : ∃ M', zex 42 53 [] [(2, 18), (0, c), (0, c % 2), (0, c / 2), (0, c / 2 % 32), (0, c / 2 / 32), (0, L + 1)] M (zKs, n, m) = zex 42 83 [] [(2, 18), (0, c), (0, c % 2), (0, c / 2), (0, c / 2 % 32), (0, c / 2 / 32), (0, L + 1)] M' (zKs, n, m) ∧ zSp M M' b h D w L c ∧ (zad b h (((c / 2 / 32 - dy) * 32 + (c / 2 % 32 - dx)) * 2 + c % 2 % 2) c 1 → M' 20 (((c / 2 / 32 - dy) * 32 + (c / 2 % 32 - dx)) * 2 + c % 2 % 2) ≤ L + 1) := by
  obtain ⟨hx1, hx2⟩ := hx
  obtain ⟨hc1, hc2⟩ := id hc
  have l2 : ∀ N : zM, zsl N 2 = 4 := fun _ => rfl
  have l3 : ∀ N : zM, zsl N 3 = 4 := fun _ => rfl
  rcases e42_k (n := n) (m := m) (X := c / 2 % 32 - dx) (Y := c / 2 / 32 - dy) r0 hb J hD hh ⟨hx1, hx2⟩ hc (by omega) with ⟨f, z, M', e, sp, le⟩ | ⟨nf, nz⟩
  · obtain ⟨f1, f2, f3⟩ := f
    refine ⟨M', ?_, sp, fun _ => le⟩
    rw [q42_53]
    simp (disch := omega) only [zp_18_2 r0, zp_18_3 r0, zk_18, zk_20, ztd_p, ztm_p, s2, s3, l2, l3, hx1, e36 r0, f1, f2, f3, e40, e, zg_pos, zI, ↓reduceIte, Int.reduceEq, Int.reduceLE, Int.reduceLT, Int.reduceAdd, Int.reduceSub, Int.reduceMul, Int.reduceNeg, zg_T, zbI_ok, zbL_ok, zbN_ok, zite1, zite2, zite3, zem, Int.cast_ofNat_Int, and_self, and_true, true_and, or_true, true_or, or_self, ite_not, if_true, if_false, not_true_eq_false, not_false_eq_true]
  · refine ⟨M, ?_, ⟨fun _ _ _ => rfl, ⟨K, J⟩, fun _ => Int.le_refl _, hx1⟩, fun z => absurd z nz⟩
    rw [q42_53]
    simp (disch := omega) only [zp_18_2 r0, zp_18_3 r0, zk_18, zk_20, ztd_p, ztm_p, s2, s3, l2, l3, hx1, e36 r0, nf, zg_pos, zI, ↓reduceIte, Int.reduceEq, Int.reduceLE, Int.reduceLT, Int.reduceAdd, Int.reduceSub, Int.reduceMul, Int.reduceNeg, zg_T, zbI_ok, zbL_ok, zbN_ok, zite1, zite2, zite3, zem, Int.cast_ofNat_Int, and_self, and_true, true_and, or_true, true_or, or_self, ite_not, if_true, if_false, not_true_eq_false, not_false_eq_true]
theorem e42_C {M : zM} {n m : Nat} {b : Int → Int} {h gx gy : Int} {D : Int → Int} {w L : Int} {K : Int → Int} {c : Int} (r0 : zPC M) (J : zJM M b h D w L K c) (hD : zDF b h gx gy D) (hh : 1 ≤ h ∧ h ≤ 8) (hx : M 20 c = L ∧ L < 1073741824) (hl : 0 ≤ L) (hT : M 18 5 = 4 * h) (hc : (0 ≤ c ∧ c < 2048) ∧ b (c / 2) = 0) : ∃ M', zex 42 83 [] [(2, 18), (0, c), (0, c % 2), (0, c / 2), (0, c / 2 % 32), (0, c / 2 / 32), (0, L + 1)] M (zKs, n, m) = some ((9, 0), M', (zKs, n, m)) ∧ zSp M M' b h D w L c ∧ M' 20 ((c / 2 / 32 * 32 + c / 2 % 32) * 2 + (1 - c % 2) % 2) ≤ L + 4 * h := by
  obtain ⟨hx1, hx2⟩ := hx
  obtain ⟨hc1, hc2⟩ := id hc
  have t : ((c / 2 / 32 * 32 + c / 2 % 32) * 2 + (1 - c % 2) % 2) / 2 = c / 2 := by omega
  have z : zad b h ((c / 2 / 32 * 32 + c / 2 % 32) * 2 + (1 - c % 2) % 2) c (4 * h) := ⟨⟨by omega, by rw [t]; exact hc2⟩, hc, .inr ⟨rfl, t, by omega⟩⟩
  obtain ⟨M', e, sp, le⟩ := e43T (n := n) (m := m) r0 J hD hh z ⟨hx1, hx2⟩
  refine ⟨M', ?_, sp, le⟩
  rw [q42_83]
  simp (disch := omega) only [zp_18_2 r0, zp_18_4 r0, zk_18, zk_20, hx1, hT, e40, e, zg_pos, zI, ↓reduceIte, Int.reduceEq, Int.reduceLE, Int.reduceLT, Int.reduceAdd, Int.reduceSub, Int.reduceMul, Int.reduceNeg, zg_T, zbI_ok, zbL_ok, zbN_ok, zite1, zite2, zite3, zem, Int.cast_ofNat_Int, and_self, and_true, true_and, or_true, true_or, or_self, ite_not, if_true, if_false, not_true_eq_false, not_false_eq_true]
theorem e42 {M : zM} {n m : Nat} {b : Int → Int} {h gx gy : Int} {D : Int → Int} {w L : Int} {K : Int → Int} {c : Int} {d2 d3 d4 d5 d6 : zV} (r0 : zPC M) (hb : ∀ y, 0 ≤ y → y < 1024 → M 19 y = b y) (J : zJM M b h D w L K c) (hD : zDF b h gx gy D) (hh : 1 ≤ h ∧ h ≤ 8) (hx : M 20 c = L ∧ L < 1073741824) (hT : M 18 5 = 4 * h) (hc : (0 ≤ c ∧ c < 2048) ∧ b (c / 2) = 0) : ∃ M', zex 42 0 [] [(2, 18), (0, c), d2, d3, d4, d5, d6] M (zKs, n, m) = some ((9, 0), M', (zKs, n, m)) ∧ (∀ r y, (r < 20 ∨ 24 < r ∨ ((r = 21 ∨ r = 23) ∧ y ≠ 2)) → M' r y = M r y) ∧ ∃ K, zJM M' b h D w L K (-1) := by
  have hl : 0 ≤ L := J.2.2.2.2.2
  obtain ⟨dx, dy, s2, s3, hd⟩ := e42_d c hc.1.1
  obtain ⟨M1, a1, a2, a3⟩ := e42_A (n := n) (m := m) (d2 := d2) (d3 := d3) (d4 := d4) (d5 := d5) (d6 := d6) r0 hb J hD hh hx hl hc s2 s3 hd
  obtain ⟨K1, J1⟩ := a2.2.1
  have hb1 : ∀ y, 0 ≤ y → y < 1024 → M1 19 y = b y := fun y y0 y1 => by rw [a2.1 _ _ (by omega)]; exact hb y y0 y1
  obtain ⟨M2, b1, b2, b3⟩ := e42_B (n := n) (m := m) (a2.pc r0) hb1 J1 hD hh ⟨a2.2.2.2, hx.2⟩ hl hc s2 s3 hd
  obtain ⟨K2, J2⟩ := b2.2.1
  have a12 := a2.trans b2
  obtain ⟨M3, c1, c2, c3⟩ := e42_C (n := n) (m := m) (a12.pc r0) J2 hD hh ⟨b2.2.2.2, hx.2⟩ hl (by rw [a12.1 _ _ (by omega)]; exact hT) hc
  obtain ⟨K3, J3⟩ := c2.2.1
  have a123 := a12.trans c2
  refine ⟨M3, a1.trans (b1.trans c1), a123.1, K3, J3.cl c2.2.2.2 (fun c' w' z => ?_)⟩
  rw [c2.2.2.2]
  have z' := z
  obtain ⟨⟨z1, z2⟩, -, z3⟩ := z
  have g1 := c2.2.2.1 c'
  have g2 := b2.2.2.1 c'
  rcases z3 with ⟨w1, z3⟩ | ⟨w1, z3, z4⟩
  · rw [w1] at z' ⊢
    by_cases k : c' = ((c / 2 / 32 + dy) * 32 + (c / 2 % 32 + dx)) * 2 + c % 2 % 2
    · rw [← k] at a3
      have := a3 z'
      omega
    · have k2 : c' = ((c / 2 / 32 - dy) * 32 + (c / 2 % 32 - dx)) * 2 + c % 2 % 2 := by
        rcases z3 with ⟨e1, e2, e3⟩ | ⟨e1, e3⟩ <;> omega
      rw [← k2] at b3
      have := b3 z'
      omega
  · have k : c' = (c / 2 / 32 * 32 + c / 2 % 32) * 2 + (1 - c % 2) % 2 := by omega
    rw [← k] at c3
    rw [w1]
    exact c3
