/-! FILLINGS, FILLING: the calls -/
def zNf (P : zM) : Nat := ((3 : Int) ^ (zrG (P 179) (P 180)).toNat).toNat
theorem zNf_e {P : zM} (hG : zrG (P 179) (P 180) ≤ 6) : ((zNf P : Nat) : Int) = (3 : Int) ^ (zrG (P 179) (P 180)).toNat ∧ zNf P ≤ 729 := by
  have b := zpw (zrG (P 179) (P 180)).toNat (by omega)
  have b1 := zpwc (zrG (P 179) (P 180)).toNat (by omega)
  unfold zNf
  omega
theorem e21 {q : Int} {M P : zM} {n m : Nat} (h : zRel q M P) (hG : zrG (P 179) (P 180) ≤ 6) : ∃ M', zex 21 0 [] [(2, 65), (9, 0), (9, 0), (9, 0), (9, 0), (9, 0)] M (zKs, n, m) = some ((9, 0), M', (zKs, n, m)) ∧ zFo M' (zAf P) (fun x => x) (zNf P) ∧ zFd M M' := by
  have hc0 : 0 ≤ zrG (P 179) (P 180) := zrk_nn
  obtain ⟨eN, eN2⟩ := zNf_e hG
  obtain ⟨A, a1, a2, a3⟩ := e29 (n := n) (m := m) (d := (9, 0)) (d' := (9, 0)) (d'' := (9, 0)) hG h.cle h.1.1 h.cc h.kk
  have hA := h.run2 a3.d (zFs.rfl (P := P))
  obtain ⟨B, b1, b2, b3⟩ := e60 (n := n) (m := m) (d := (9, 0)) hA.1.1
  have fB : zFd M B := a3.d.trans (fun r y hr => b3 r y (by omega))
  have fD : zFd M (zu B 65 11 0) := fB.zu (by omega)
  have g4 : zu B 65 11 0 65 4 = zrG (P 179) (P 180) := by rw [zun2 (by omega), b3 _ _ (by omega), a2.1]
  obtain ⟨D, d1, d2, d3⟩ := e21_l (n := n) (m := m) (N := zNf P) eN2 hG (zNf P) 0 (zu B 65 11 0) (9, 0) (9, 0) (by omega) (h.run2 fD zFs.rfl) ⟨g4, fun t t0 t1 => by
      rw [zun (by omega), zun (by omega), b3 _ _ (by omega), b3 _ _ (by omega)]
      exact a2.2.1 t t0 t1, fun b j x0 x1 j0 j1 hg => by
      rw [zun (by omega), zun (by omega), b3 _ _ (by omega), b3 _ _ (by omega)]
      exact a2.2.2 b j x0 x1 j0 j1 hg⟩ (fun a i x0 x1 i0 i1 => ⟨fun _ => by
      have := h.cle a x0 x1
      rw [zun (by omega), b2 a x0 x1 i i0 (by omega)]
      exact hA.kk a x0 x1 i i0 i1, fun _ y => by have := zrk_nn (c := P 179) (k := P 180) (a := a) (i := i); omega⟩) ⟨zus, fun f hf _ => by omega⟩
  refine ⟨D, ?_, d2, fD.trans d3⟩
  have e20' : ∀ Q : zM, zex 20 0 [] [(0, zrG (P 179) (P 180)), (9, 0), (9, 0), (9, 0)] Q (zKs, n, m) = some ((1, ((zNf P : Nat) : Int)), Q, (zKs, n, m)) := fun Q => by
    rw [e20 hc0, eN, show (min (zrG (P 179) (P 180)) 20).toNat = (zrG (P 179) (P 180)).toNat by omega]
  have d1' : zex 21 14 [] [(2, 65), (1, ((zNf P : Nat) : Int)), (9, 0), (0, 0), (9, 0), (9, 0)] (zu B 65 11 0) (zKs, n, m) = some ((9, 0), D, (zKs, n, m)) := d1
  simp (disch := omega) only [q21_0, a1, b1, g4, e20', d1', zk_27, zk_65, zp_65_0 hA.1.1, zg_pos, ↓reduceIte, Int.reduceEq, Int.reduceLE, Int.reduceLT, Int.reduceAdd, Int.reduceSub, Int.reduceMul, Int.reduceNeg, zg_T, zbI_ok, zbL_ok, zbN_ok, zite1, zite2, zite3, zem, Int.cast_ofNat_Int, and_self, and_true, true_and, or_true, true_or, or_self, ite_not, if_true, if_false, not_true_eq_false, not_false_eq_true]
theorem e196 {q : Int} {M P0 P : zM} {n m : Nat} {f : Int} (h : zRel q M P0) (fs : zFs P0 P) (hf : 0 ≤ f) : ∃ P' w, zex 196 0 [] [(2, 178), (0, f)] P (zKs, n, m) = some ((0, w), P', (zKs, n, m)) ∧ zFs P P' ∧ ((w = 1 ∧ zAf P0 f) ∨ (w = 0 ∧ ¬ zAf P0 f)) := by
  have r1 := fs.pr h.1.2
  have rs := h.2.2.2.2.2.1
  have e0 : P 178 10 = P0 178 10 ∧ P 178 11 = P0 178 11 ∧ P 178 12 = P0 178 12 := ⟨fs _ _ (by omega), fs _ _ (by omega), fs _ _ (by omega)⟩
  obtain ⟨A, a1, a2, a3, a4⟩ := e161 (d := (9, 0)) r1 (by rw [e0.1]; exact rs.2.2.2.2.2.1) (by rw [e0.2.1]; exact rs.2.2.2.2.2.2.1)
  rw [e0.1, e0.2.1, e0.2.2] at a2
  have fA := fs.trans a4
  obtain ⟨s1, s2, s3⟩ := a2
  obtain ⟨B, b1, b2, b3⟩ := e195 (P := A) (n := n) (m := m) (c := P0 179) (k := P0 180) (R := 212) (N := f) (d := (9, 0)) (d' := (9, 0)) (d'' := (9, 0)) (.inl rfl) hf (fun a x y => by rw [fA _ _ (by omega)]; exact h.cr.1 a x y) (fA.pr h.1.2) (fun x _ _ => fA _ _ (by omega)) (fun x x0 x1 => by rw [s3 x x0 x1, fs _ _ (by omega)])
  have fB : zFs P0 B := fun r y hr => by rw [b3 _ _ (by omega), fA r y hr]
  obtain ⟨D, v, d1, d2, d3⟩ := e192 (P := B) (n := n) (m := m) (k := zkf (P0 179) (P0 180) f) (sx := P0 178 10) (sy := P0 178 11) (sd := P0 178 12) (d := (9, 0)) (d' := (9, 0)) h.ct h.s0 h.sp (h.rd.of fB) ⟨by rw [b3 _ _ (by omega), b3 _ _ (by omega), b3 _ _ (by omega), b3 _ _ (by omega), b3 _ _ (by omega)]; exact s1, fun a x y => by rw [b3 _ _ (by omega), b3 _ _ (by omega)]; exact s2 a x y, b2⟩ (by rw [b3 _ _ (by omega), a3])
  have rA := fA.pr h.1.2
  have fD : zFs P D := fun r y hr => by rw [d2 r y hr, b3 _ _ (by omega), a4 r y hr]
  rcases d3 with ⟨rfl, d3⟩ | ⟨rfl, d3⟩
  · refine ⟨D, 1, ?_, fD, .inl ⟨rfl, d3⟩⟩
    simp (disch := omega) only [q196_0, q196_14, a1, b1, d1, zk_178, zp_178_48 rA, zg_pos, ↓reduceIte, Int.reduceEq, Int.reduceLE, Int.reduceLT, Int.reduceAdd, Int.reduceSub, Int.reduceMul, Int.reduceNeg, zg_T, zbI_ok, zbL_ok, zbN_ok, zite1, zite2, zite3, zem, Int.cast_ofNat_Int, and_self, and_true, true_and, or_true, true_or, or_self, ite_not, if_true, if_false, not_true_eq_false, not_false_eq_true]
  · refine ⟨D, 0, ?_, fD, .inr ⟨rfl, d3⟩⟩
    simp (disch := omega) only [q196_0, q196_14, a1, b1, d1, zk_178, zp_178_48 rA, zg_pos, ↓reduceIte, Int.reduceEq, Int.reduceLE, Int.reduceLT, Int.reduceAdd, Int.reduceSub, Int.reduceMul, Int.reduceNeg, zg_T, zbI_ok, zbL_ok, zbN_ok, zite1, zite2, zite3, zem, Int.cast_ofNat_Int, and_self, and_true, true_and, or_true, true_or, or_self, ite_not, if_true, if_false, not_true_eq_false, not_false_eq_true]
theorem e197_l {q : Int} {M P0 : zM} {n m : Nat} (h : zRel q M P0) (hG : zrG (P0 179) (P0 180) ≤ 6) : ∀ (z f : Nat) (P : zM), f + z = zNf P0 → zFs P0 P → ∃ P', zex 197 12 [] [(2, 178), (0, zrG (P0 179) (P0 180)), (0, zct (zAf P0) f), (0, (f : Int))] P (zKs, n, m) = some ((0, zct (zAf P0) (zNf P0)), P', (zKs, n, m)) ∧ zFs P P'
  | 0, f, P, hz, fs => by
    have hc0 : 0 ≤ zrG (P0 179) (P0 180) := zrk_nn
    obtain ⟨eN, eN2⟩ := zNf_e hG
    have e1 := e194 (g := zrG (P0 179) (P0 180)) (M := P) (X := (zKs, n, m)) (d := (9, 0)) (d' := (9, 0)) hc0
    rw [show (min (zrG (P0 179) (P0 180)) 19).toNat = (zrG (P0 179) (P0 180)).toNat by omega, ← eN] at e1
    have : f = zNf P0 := by omega
    subst this
    exact ⟨P, by rw [q197_12, e1, zbI_ok, if_pos (Int.le_refl _)], zFs.rfl⟩
  | z + 1, f, P, hz, fs => by
    have hc0 : 0 ≤ zrG (P0 179) (P0 180) := zrk_nn
    obtain ⟨eN, eN2⟩ := zNf_e hG
    have e1 := e194 (g := zrG (P0 179) (P0 180)) (M := P) (X := (zKs, n, m)) (d := (9, 0)) (d' := (9, 0)) hc0
    rw [show (min (zrG (P0 179) (P0 180)) 19).toNat = (zrG (P0 179) (P0 180)).toNat by omega, ← eN] at e1
    obtain ⟨A, w, a1, a2, a3⟩ := e196 (n := n) (m := m) (f := (f : Int)) h fs (by omega)
    obtain ⟨B, b1, b2⟩ := e197_l (n := n) (m := m) h hG z (f + 1) A (by omega) (fs.trans a2)
    have ct := zct_le (A := zAf P0) f
    refine ⟨B, ?_, a2.trans b2⟩
    rw [← b1, q197_12, e1, zbI_ok, if_neg (by omega), zg_pos (zk_178 n m), a1, zbI_ok]
    rcases a3 with ⟨rfl, a3⟩ | ⟨rfl, a3⟩
    · rw [if_neg (by omega), q197_24, zg_pos (by unfold zI; omega), zg_pos (by unfold zI; omega), zct_y a3]
      rfl
    · rw [if_pos rfl, q197_24, zg_pos (by unfold zI; omega), zg_pos (by unfold zI; omega), zct_n a3, Int.add_zero]
      rfl
theorem o_fillings {q : Int} {M P : zM} (h : zRel q M P) (n m : Nat) : zOpn q 116 197 [] [(9, 0), (9, 0), (9, 0)] M P n m := by
  obtain ⟨⟨r0, r1⟩, rc, rh, rp, rb, rs, rw0, rx, ro, rk, rt, rr⟩ := id h
  obtain ⟨⟨a1, a2, a3⟩, ⟨b1, b2, b3⟩, c1, c2, c3⟩ := zcnt rc
  have k6 := e6 (d := (9, 0)) (d' := (9, 0)) (zCa2 r0 n m) (by simp only [Int.reduceAdd]; omega) (by simp only [Int.reduceAdd]; omega) (by simp only [Int.reduceAdd]; omega)
  rw [zga_un rc, ← zrG_un] at k6
  have l6 := e160 (n := n) (m := m) (d := (9, 0)) (d' := (9, 0)) (d'' := (9, 0)) r1 ⟨a2, a3⟩ ⟨b2, b3⟩ ⟨c2, c3⟩
  rw [← zrG_un] at l6
  by_cases hz : zrG (P 179) (P 180) ≤ 6
  · obtain ⟨M1, m1, m2, m3⟩ := e21 (n := n) (m := m) h hz
    obtain ⟨P1, p1, p2⟩ := e197_l (n := n) (m := m) h hz (zNf P) 0 P (by omega) zFs.rfl
    have p1' : zex 197 12 [] [(2, 178), (0, zrG (P 179) (P 180)), (0, 0), (0, 0)] P (zKs, n, m) = some ((0, zct (zAf P) (zNf P)), P1, (zKs, n, m)) := p1
    refine ⟨zct (zAf P) (zNf P), M1, P1, ?_, fun r y hr => by rw [m3 _ _ (by omega)], ?_, fun r y hr => by rw [p2 _ _ (by omega)], h.run2 m3 p2⟩
    · simp (disch := omega) only [q116_0, k6, hz, m1, m2.1, zk_1, zk_2, zk_65, zp_1_0 r0, zp_1_7 r0, zp_1_7 (m3.pc r0), zg_pos, ↓reduceIte, Int.reduceEq, Int.reduceLE, Int.reduceLT, Int.reduceAdd, Int.reduceSub, Int.reduceMul, Int.reduceNeg, zg_T, zbI_ok, zbL_ok, zbN_ok, zite1, zite2, zite3, zem, Int.cast_ofNat_Int, and_self, and_true, true_and, or_true, true_or, or_self, ite_not, if_true, if_false, not_true_eq_false, not_false_eq_true]
    · simp (disch := omega) only [q197_0, l6, hz, p1', zk_178, zg_pos, ↓reduceIte, Int.reduceEq, Int.reduceLE, Int.reduceLT, Int.reduceAdd, Int.reduceSub, Int.reduceMul, Int.reduceNeg, zg_T, zbI_ok, zbL_ok, zbN_ok, zite1, zite2, zite3, zem, Int.cast_ofNat_Int, and_self, and_true, true_and, or_true, true_or, or_self, ite_not, if_true, if_false, not_true_eq_false, not_false_eq_true]
  · refine ⟨-6, M, P, ?_, zCf.rfl, ?_, zRf.rfl, h⟩
    · simp (disch := omega) only [q116_0, k6, hz, zk_1, zk_2, zp_1_0 r0, zg_pos, ↓reduceIte, Int.reduceEq, Int.reduceLE, Int.reduceLT, Int.reduceAdd, Int.reduceSub, Int.reduceMul, Int.reduceNeg, zg_T, zbI_ok, zbL_ok, zbN_ok, zite1, zite2, zite3, zem, Int.cast_ofNat_Int, and_self, and_true, true_and, or_true, true_or, or_self, ite_not, if_true, if_false, not_true_eq_false, not_false_eq_true]
    · simp (disch := omega) only [q197_0, l6, hz, zk_178, zg_pos, ↓reduceIte, Int.reduceEq, Int.reduceLE, Int.reduceLT, Int.reduceAdd, Int.reduceSub, Int.reduceMul, Int.reduceNeg, zg_T, zbI_ok, zbL_ok, zbN_ok, zite1, zite2, zite3, zem, Int.cast_ofNat_Int, and_self, and_true, true_and, or_true, true_or, or_self, ite_not, if_true, if_false, not_true_eq_false, not_false_eq_true]
theorem e19 {M : zM} {n m : Nat} {i : Int} (r0 : zPC M) (hi : 0 ≤ i) (hc : M 65 11 ≤ 729) : zex 19 0 [] [(2, 65), (0, i)] M (zKs, n, m) = some ((0, if i < M 65 11 then M 74 i else -1), M, (zKs, n, m)) := by
  by_cases e : i < M 65 11
  · have e2 : ¬ M 65 11 ≤ i := by omega
    have e3 : ¬ i < 0 := by omega
    simp (disch := omega) only [q19_0, q19_12, e, e2, e3, zk_65, zk_74, zp_65_10 r0, zg_pos, ↓reduceIte, Int.reduceEq, Int.reduceLE, Int.reduceLT, Int.reduceAdd, Int.reduceSub, Int.reduceMul, Int.reduceNeg, zg_T, zbI_ok, zbL_ok, zbN_ok, zite1, zite2, zite3, zem, Int.cast_ofNat_Int, and_self, and_true, true_and, or_true, true_or, or_self, ite_not, if_true, if_false, not_true_eq_false, not_false_eq_true]
  · have e2 : M 65 11 ≤ i := by omega
    have e3 : ¬ i < 0 := by omega
    simp (disch := omega) only [q19_0, q19_11, q19_12, e, e2, e3, zk_65, zg_pos, ↓reduceIte, Int.reduceEq, Int.reduceLE, Int.reduceLT, Int.reduceAdd, Int.reduceSub, Int.reduceMul, Int.reduceNeg, zg_T, zbI_ok, zbL_ok, zbN_ok, zite1, zite2, zite3, zem, Int.cast_ofNat_Int, and_self, and_true, true_and, or_true, true_or, or_self, ite_not, if_true, if_false, not_true_eq_false, not_false_eq_true]
theorem e198_l {q i : Int} {M P0 : zM} {n m : Nat} (h : zRel q M P0) (hG : zrG (P0 179) (P0 180) ≤ 6) : ∀ (z f : Nat) (P : zM), f + z = zNf P0 → zFs P0 P → ∃ P' v, zex 198 16 [] [(2, 178), (0, i), (0, zrG (P0 179) (P0 180)), (0, zct (zAf P0) f), (0, (f : Int))] P (zKs, n, m) = some ((0, v), P', (zKs, n, m)) ∧ zFs P P' ∧ ((∃ g : Nat, g < zNf P0 ∧ zAf P0 g ∧ zct (zAf P0) g = i ∧ v = g) ∨ (v = -1 ∧ ∀ g : Nat, f ≤ g → g < zNf P0 → zAf P0 g → zct (zAf P0) g ≠ i))
  | 0, f, P, hz, fs => by
    have hc0 : 0 ≤ zrG (P0 179) (P0 180) := zrk_nn
    obtain ⟨eN, eN2⟩ := zNf_e hG
    have e1 := e194 (g := zrG (P0 179) (P0 180)) (M := P) (X := (zKs, n, m)) (d := (9, 0)) (d' := (9, 0)) hc0
    rw [show (min (zrG (P0 179) (P0 180)) 19).toNat = (zrG (P0 179) (P0 180)).toNat by omega, ← eN] at e1
    have : f = zNf P0 := by omega
    subst this
    exact ⟨P, -1, by rw [q198_16, e1, zbI_ok, if_pos (Int.le_refl _)], zFs.rfl, .inr ⟨rfl, fun g g0 g1 => by omega⟩⟩
  | z + 1, f, P, hz, fs => by
    have hc0 : 0 ≤ zrG (P0 179) (P0 180) := zrk_nn
    obtain ⟨eN, eN2⟩ := zNf_e hG
    have e1 := e194 (g := zrG (P0 179) (P0 180)) (M := P) (X := (zKs, n, m)) (d := (9, 0)) (d' := (9, 0)) hc0
    rw [show (min (zrG (P0 179) (P0 180)) 19).toNat = (zrG (P0 179) (P0 180)).toNat by omega, ← eN] at e1
    obtain ⟨A, w, a1, a2, a3⟩ := e196 (n := n) (m := m) (f := (f : Int)) h fs (by omega)
    have ct := zct_le (A := zAf P0) f
    have s : zex 198 16 [] [(2, 178), (0, i), (0, zrG (P0 179) (P0 180)), (0, zct (zAf P0) f), (0, (f : Int))] P (zKs, n, m) = if w = 0 then zex 198 30 [] [(2, 178), (0, i), (0, zrG (P0 179) (P0 180)), (0, zct (zAf P0) f), (0, (f : Int))] A (zKs, n, m) else if zct (zAf P0) f = i then some ((0, (f : Int)), A, (zKs, n, m)) else zex 198 30 [] [(2, 178), (0, i), (0, zrG (P0 179) (P0 180)), (0, zct (zAf P0) f + 1), (0, (f : Int))] A (zKs, n, m) := by
      rw [q198_16, e1, zbI_ok, if_neg (by omega), zg_pos (zk_178 n m), a1, zbI_ok, zg_pos (by unfold zI; omega)]
    obtain ⟨B, v, b1, b2, b3⟩ := e198_l (n := n) (m := m) (i := i) h hG z (f + 1) A (by omega) (fs.trans a2)
    rcases a3 with ⟨rfl, a3⟩ | ⟨rfl, a3⟩
    · rw [if_neg (by omega)] at s
      by_cases e : zct (zAf P0) f = i
      · rw [if_pos e] at s
        exact ⟨A, f, s, a2, .inl ⟨f, by omega, a3, e, rfl⟩⟩
      · rw [if_neg e] at s
        rw [zct_y a3] at b1
        refine ⟨B, v, ?_, a2.trans b2, b3.imp_right (fun ⟨x1, x2⟩ => ⟨x1, fun g g0 g1 g2 => ?_⟩)⟩
        · rw [s, q198_30, zg_pos (by unfold zI; omega)]
          exact b1
        · by_cases eg : g = f
          · subst eg; exact e
          · exact x2 g (by omega) g1 g2
    · rw [if_pos rfl] at s
      rw [zct_n a3] at b1
      refine ⟨B, v, ?_, a2.trans b2, b3.imp_right (fun ⟨x1, x2⟩ => ⟨x1, fun g g0 g1 g2 => ?_⟩)⟩
      · rw [s, q198_30, zg_pos (by unfold zI; omega)]
        exact b1
      · by_cases eg : g = f
        · subst eg; exact absurd g2 a3
        · exact x2 g (by omega) g1 g2
theorem o_filling {q : Int} {M P : zM} (h : zRel q M P) (n m : Nat) (i : Int) : zOpn q 117 198 [(0, i)] [(0, i), (9, 0), (9, 0), (9, 0)] M P n m := by
  obtain ⟨⟨r0, r1⟩, rc, rh, rp, rb, rs, rw0, rx, ro, rk, rt, rr⟩ := id h
  obtain ⟨⟨a1, a2, a3⟩, ⟨b1, b2, b3⟩, c1, c2, c3⟩ := zcnt rc
  have k6 := e6 (d := (9, 0)) (d' := (9, 0)) (zCa2 r0 n m) (by simp only [Int.reduceAdd]; omega) (by simp only [Int.reduceAdd]; omega) (by simp only [Int.reduceAdd]; omega)
  rw [zga_un rc, ← zrG_un] at k6
  have l6 := e160 (n := n) (m := m) (d := (9, 0)) (d' := (9, 0)) (d'' := (9, 0)) r1 ⟨a2, a3⟩ ⟨b2, b3⟩ ⟨c2, c3⟩
  rw [← zrG_un] at l6
  by_cases hi : 0 ≤ i
  · by_cases hz : zrG (P 179) (P 180) ≤ 6
    · obtain ⟨M1, m1, m2, m3⟩ := e21 (n := n) (m := m) h hz
      obtain ⟨P1, v, p1, p2, p3⟩ := e198_l (n := n) (m := m) (i := i) h hz (zNf P) 0 P (by omega) zFs.rfl
      have p1' : zex 198 16 [] [(2, 178), (0, i), (0, zrG (P 179) (P 180)), (0, 0), (0, 0)] P (zKs, n, m) = some ((0, v), P1, (zKs, n, m)) := p1
      have ct := zct_le (A := zAf P) (zNf P)
      have eN2 := (zNf_e hz).2
      have k1 := m3.pc r0
      have e19' := e19 (n := n) (m := m) k1 hi (by rw [m2.1]; omega)
      have hv : (if i < M1 65 11 then M1 74 i else -1) = v := by
        rw [m2.1]
        rcases p3 with ⟨g, g1, g2, g3, g4⟩ | ⟨g1, g2⟩
        · have := zct_lt g1 g2
          rw [if_pos (by omega), ← g3, m2.2 g g1 g2, g4]
        · by_cases e : i < zct (zAf P) (zNf P)
          · obtain ⟨f, f1, f2, f3⟩ := zct_ex (zNf P) i hi e
            exact absurd f3 (g2 f (by omega) f1 f2)
          · rw [if_neg e, g1]
      rw [hv] at e19'
      refine ⟨v, M1, P1, ?_, fun r y hr => by rw [m3 _ _ (by omega)], ?_, fun r y hr => by rw [p2 _ _ (by omega)], h.run2 m3 p2⟩
      · simp (disch := omega) only [q117_0, k6, hi, hz, m1, e19', zk_1, zk_2, zk_65, zp_1_0 r0, zp_1_7 r0, zp_1_7 k1, zg_pos, ↓reduceIte, Int.reduceEq, Int.reduceLE, Int.reduceLT, Int.reduceAdd, Int.reduceSub, Int.reduceMul, Int.reduceNeg, zg_T, zbI_ok, zbL_ok, zbN_ok, zite1, zite2, zite3, zem, Int.cast_ofNat_Int, and_self, and_true, true_and, or_true, true_or, or_self, ite_not, if_true, if_false, not_true_eq_false, not_false_eq_true]
      · simp (disch := omega) only [q198_0, l6, hi, hz, p1', zk_178, zg_pos, ↓reduceIte, Int.reduceEq, Int.reduceLE, Int.reduceLT, Int.reduceAdd, Int.reduceSub, Int.reduceMul, Int.reduceNeg, zg_T, zbI_ok, zbL_ok, zbN_ok, zite1, zite2, zite3, zem, Int.cast_ofNat_Int, and_self, and_true, true_and, or_true, true_or, or_self, ite_not, if_true, if_false, not_true_eq_false, not_false_eq_true]
    · refine ⟨-6, M, P, ?_, zCf.rfl, ?_, zRf.rfl, h⟩
      · simp (disch := omega) only [q117_0, k6, hi, hz, zk_1, zk_2, zp_1_0 r0, zg_pos, ↓reduceIte, Int.reduceEq, Int.reduceLE, Int.reduceLT, Int.reduceAdd, Int.reduceSub, Int.reduceMul, Int.reduceNeg, zg_T, zbI_ok, zbL_ok, zbN_ok, zite1, zite2, zite3, zem, Int.cast_ofNat_Int, and_self, and_true, true_and, or_true, true_or, or_self, ite_not, if_true, if_false, not_true_eq_false, not_false_eq_true]
      · simp (disch := omega) only [q198_0, l6, hi, hz, zk_178, zg_pos, ↓reduceIte, Int.reduceEq, Int.reduceLE, Int.reduceLT, Int.reduceAdd, Int.reduceSub, Int.reduceMul, Int.reduceNeg, zg_T, zbI_ok, zbL_ok, zbN_ok, zite1, zite2, zite3, zem, Int.cast_ofNat_Int, and_self, and_true, true_and, or_true, true_or, or_self, ite_not, if_true, if_false, not_true_eq_false, not_false_eq_true]
  · refine ⟨-1, M, P, ?_, zCf.rfl, ?_, zRf.rfl, h⟩
    · simp only [q117_0, hi, ↓reduceIte, Int.reduceEq, Int.reduceLE, Int.reduceLT, Int.reduceAdd, Int.reduceSub, Int.reduceMul, Int.reduceNeg, zg_T, zbI_ok, zbL_ok, zbN_ok, zite1, zite2, zite3, zem, Int.cast_ofNat_Int, and_self, and_true, true_and, or_true, true_or, or_self, ite_not, if_true, if_false, not_true_eq_false, not_false_eq_true]
    · simp only [q198_0, hi, ↓reduceIte, Int.reduceEq, Int.reduceLE, Int.reduceLT, Int.reduceAdd, Int.reduceSub, Int.reduceMul, Int.reduceNeg, zg_T, zbI_ok, zbL_ok, zbN_ok, zite1, zite2, zite3, zem, Int.cast_ofNat_Int, and_self, and_true, true_and, or_true, true_or, or_self, ite_not, if_true, if_false, not_true_eq_false, not_false_eq_true]
