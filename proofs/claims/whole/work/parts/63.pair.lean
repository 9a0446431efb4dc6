/-! PAIR -/
theorem pr_l {q : Int} {M0 P0 : zM} {n m : Nat} {f : Int} (h : zRel q M0 P0) (hf : 0 ≤ f) : ∀ (z : Nat) (s : Int) (M P : zM), f < s → s + z = zsT (P0 179) → zFd M0 M → zFs P0 P → zSL M (P0 179) (zsT (P0 179)) → zKK M (P0 179) (zks (P0 179) (P0 180) f) → (∃ v M' P', zex 24 18 [] [(2, 65), (0, f), (0, s)] M (zKs, n, m) = some ((0, v), M', (zKs, n, m)) ∧ zex 206 15 [] [(2, 178), (0, f), (0, s)] P (zKs, n, m) = some ((0, v), P', (zKs, n, m)) ∧ zFd M0 M' ∧ zFs P0 P') ∨ (∃ M' P', zex 24 18 [] [(2, 65), (0, f), (0, s)] M (zKs, n, m) = zex 24 18 [] [(2, 65), (0, f), (0, zsT (P0 179))] M' (zKs, n, m) ∧ zex 206 15 [] [(2, 178), (0, f), (0, s)] P (zKs, n, m) = zex 206 15 [] [(2, 178), (0, f), (0, zsT (P0 179))] P' (zKs, n, m) ∧ zFd M0 M' ∧ zFs P0 P' ∧ zSL M' (P0 179) (zsT (P0 179)) ∧ zKK M' (P0 179) (zks (P0 179) (P0 180) f))
  | 0, s, M, P, hs, hz, fd, fs, hL, hK => by
    have e : s = zsT (P0 179) := by omega
    subst e
    exact .inr ⟨M, P, rfl, rfl, fd, fs, hL, hK⟩
  | z + 1, s, M, P, h0, hz, fd, fs, hL, hK => by
    have hc : zCk (P0 179) := h.cle
    have hT := zsT_le hc
    have hs : 0 ≤ s ∧ s < zsT (P0 179) := ⟨by omega, by omega⟩
    obtain ⟨x1, x2, x3, x4⟩ := zx_ok hc hs
    have r0 := fd.pc h.1.1
    have g1 := e31 (n := n) (m := m) hc r0 hL hs
    have k1 := hK.give hc hs
    have fA : zFd M (zu M (30 + zxa (P0 179) s) (zxp (P0 179) s + 1) 2) := zFd.rfl.zu (by omega)
    have mA : ∀ r y, (r < 30 ∨ 32 < r) → zu M (30 + zxa (P0 179) s) (zxp (P0 179) s + 1) 2 r y = M r y := fun r y hr => zun (by omega)
    generalize zu M (30 + zxa (P0 179) s) (zxp (P0 179) s + 1) 2 = A at g1 k1 fA mA
    have hA := h.run2 (fd.trans fA) (zFs.rfl (P := P0))
    obtain ⟨B, w, b1, b2, b3, b4⟩ := e26 (n := n) (m := m) (d := (9, 0)) (k := zks (P0 179) (zks (P0 179) (P0 180) f) s) h.ct h.s0 h.sp hA.cd hA.st k1
    have fB : zFd M B := fA.trans b2.d
    have mB : ∀ r y, (r < 27 ∨ 35 < r) → B r y = M r y := fun r y hr => by rw [b2 _ _ (by omega), mA _ _ (by omega)]
    obtain ⟨Q, w', p1, p2, p3⟩ := e203 (n := n) (m := m) (s := f) (t := s) h fs (by omega) hs
    have e1 := e201 (n := n) (m := m) (fs.pr h.1.2) hc (fun a _ _ => fs _ _ (by omega))
    have s1 : zex 24 18 [] [(2, 65), (0, f), (0, s)] M (zKs, n, m) = if w = 0 then zbN (zex 32 0 [] [(2, 65), (0, s), (9, 0), (9, 0)] B (zKs, n, m)) (fun M4 X4 => zg (zI (s + 1)) (zex 24 18 [] [(2, 65), (0, f), (0, s + 1)] M4 X4)) else some ((0, 1000 * f + s), B, (zKs, n, m)) := by
      rw [q24_18, zg_pos (zk_65 n m), hL.1, if_neg (by omega), zg_pos (zk_65 n m), g1, zbN_ok, zg_pos (zk_65 n m), b1, zbI_ok]
      rw [zg_pos (zk_65 n m), zg_pos (by unfold zI; omega), zg_pos (by unfold zI; omega)]
    have s2 : zex 206 15 [] [(2, 178), (0, f), (0, s)] P (zKs, n, m) = if w' = 0 then zex 206 15 [] [(2, 178), (0, f), (0, s + 1)] Q (zKs, n, m) else some ((0, 1000 * f + s), Q, (zKs, n, m)) := by
      rw [q206_15, zg_pos (zk_178 n m), e1, zbI_ok, if_neg (by omega), zg_pos (zk_178 n m), p1, zbI_ok]
      rw [zg_pos (by unfold zI; omega), zg_pos (by unfold zI; omega), zg_pos (by unfold zI; omega)]
    rcases b4 with ⟨rfl, b4⟩ | ⟨rfl, b4⟩
    · rcases p3 with ⟨rfl, p3⟩ | ⟨rfl, p3⟩
      · rw [if_neg (by omega)] at s1 s2
        exact .inl ⟨_, B, Q, s1, s2, fd.trans fB, fs.trans p2⟩
      · exact absurd b4 p3
    · rcases p3 with ⟨rfl, p3⟩ | ⟨rfl, p3⟩
      · exact absurd p3 b4
      · rw [if_pos rfl] at s1 s2
        have rB := fB.pc r0
        have LB : zSL B (P0 179) (zsT (P0 179)) := hL.of (mB _ _ (by omega)) (fun s => ⟨mB _ _ (by omega), mB _ _ (by omega)⟩)
        have g2 := e32 (n := n) (m := m) (d := (9, 0)) (d' := (9, 0)) hc rB LB hs
        have hv : B (6 + 4 * zxa (P0 179) s) (zxp (P0 179) s + 1) = zks (P0 179) (P0 180) f (40 * zxa (P0 179) s + zxp (P0 179) s + 1) := by
          unfold zks
          rw [if_neg (fun e => by have := zx_inj hc hs (t := f) (by omega) (by omega); omega), (fd.trans fB) _ _ (by omega), h.kk _ x1.1 x1.2 _ (by omega) x3, Int.add_assoc]
        have KB : zKK B (P0 179) (zks (P0 179) (zks (P0 179) (P0 180) f) s) := b3
        rw [g2, zbN_ok, zg_pos (by unfold zI; omega)] at s1
        rw [s1, s2]
        exact pr_l h hf z (s + 1) _ Q (by omega) (by omega) ((fd.trans fB).zu (by omega)) (fs.trans p2) (LB.of (zun (by omega)) (fun s => ⟨zun (by omega), zun (by omega)⟩)) (KB.back hc hs hv)
theorem pr_o {q : Int} {M0 P0 : zM} {n m : Nat} (h : zRel q M0 P0) : ∀ (z : Nat) (f : Int) (M P : zM) (d d' : zV), 0 ≤ f → f + z = zsT (P0 179) → zFd M0 M → zFs P0 P → zSL M (P0 179) (zsT (P0 179)) → zKK M (P0 179) (P0 180) → ∃ v M' P', zex 24 7 [] [(2, 65), (0, f), d] M (zKs, n, m) = some ((0, v), M', (zKs, n, m)) ∧ zex 206 7 [] [(2, 178), (0, f), d'] P (zKs, n, m) = some ((0, v), P', (zKs, n, m)) ∧ zFd M0 M' ∧ zFs P0 P'
  | 0, f, M, P, d, d', h0, hz, fd, fs, hL, hK => by
    have hc : zCk (P0 179) := h.cle
    have e1 := e201 (n := n) (m := m) (fs.pr h.1.2) hc (fun a _ _ => fs _ _ (by omega))
    refine ⟨-1, M, P, ?_, ?_, fd, fs⟩
    · rw [q24_7, zg_pos (zk_65 n m), hL.1, if_pos (by omega)]
    · rw [q206_7, zg_pos (zk_178 n m), e1, zbI_ok, if_pos (by omega)]
  | z + 1, f, M, P, d, d', h0, hz, fd, fs, hL, hK => by
    have hc : zCk (P0 179) := h.cle
    have hT := zsT_le hc
    have hs : 0 ≤ f ∧ f < zsT (P0 179) := ⟨by omega, by omega⟩
    obtain ⟨x1, x2, x3, x4⟩ := zx_ok hc hs
    have r0 := fd.pc h.1.1
    have e1 := e201 (n := n) (m := m) (fs.pr h.1.2) hc (fun a _ _ => fs _ _ (by omega))
    have g1 := e31 (n := n) (m := m) hc r0 hL hs
    have s1 : zex 24 7 [] [(2, 65), (0, f), d] M (zKs, n, m) = zex 24 18 [] [(2, 65), (0, f), (0, f + 1)] (zu M (30 + zxa (P0 179) f) (zxp (P0 179) f + 1) 2) (zKs, n, m) := by
      rw [q24_7, zg_pos (zk_65 n m), hL.1, if_neg (by omega), zg_pos (zk_65 n m), g1, zbN_ok, zg_pos (by unfold zI; omega)]
    have s2 : zex 206 7 [] [(2, 178), (0, f), d'] P (zKs, n, m) = zex 206 15 [] [(2, 178), (0, f), (0, f + 1)] P (zKs, n, m) := by
      rw [q206_7, zg_pos (zk_178 n m), e1, zbI_ok, if_neg (by omega), zg_pos (by unfold zI; omega)]
    rw [s1, s2]
    rcases pr_l (n := n) (m := m) h h0 z (f + 1) (zu M (30 + zxa (P0 179) f) (zxp (P0 179) f + 1) 2) P (by omega) (by omega) (fd.zu (by omega)) fs (hL.of (zun (by omega)) (fun s => ⟨zun (by omega), zun (by omega)⟩)) (hK.give hc hs) with ⟨v, M', P', a1, a2, a3, a4⟩ | ⟨M', P', a1, a2, a3, a4, a5, a6⟩
    · exact ⟨v, M', P', a1, a2, a3, a4⟩
    · have r1 := a3.pc h.1.1
      have g2 := e32 (n := n) (m := m) (d := (9, 0)) (d' := (9, 0)) hc r1 a5 hs
      have hv : M' (6 + 4 * zxa (P0 179) f) (zxp (P0 179) f + 1) = P0 180 (40 * zxa (P0 179) f + zxp (P0 179) f + 1) := by
        rw [a3 _ _ (by omega), h.kk _ x1.1 x1.2 _ (by omega) x3, Int.add_assoc]
      have e2 := e201 (n := n) (m := m) (a4.pr h.1.2) hc (fun a _ _ => a4 _ _ (by omega))
      have t1 : zex 24 18 [] [(2, 65), (0, f), (0, zsT (P0 179))] M' (zKs, n, m) = zex 24 7 [] [(2, 65), (0, f + 1), (0, zsT (P0 179))] (zu M' (30 + zxa (P0 179) f) (zxp (P0 179) f + 1) (M' (6 + 4 * zxa (P0 179) f) (zxp (P0 179) f + 1))) (zKs, n, m) := by
        rw [q24_18, zg_pos (zk_65 n m), a5.1, if_pos (by omega), zg_pos (zk_65 n m), g2, zbN_ok, zg_pos (by unfold zI; omega)]
      have t2 : zex 206 15 [] [(2, 178), (0, f), (0, zsT (P0 179))] P' (zKs, n, m) = zex 206 7 [] [(2, 178), (0, f + 1), (0, zsT (P0 179))] P' (zKs, n, m) := by
        rw [q206_15, zg_pos (zk_178 n m), e2, zbI_ok, if_pos (by omega), zg_pos (by unfold zI; omega)]
      rw [a1, a2, t1, t2]
      exact pr_o h z (f + 1) _ P' _ _ (by omega) (by omega) (a3.zu (by omega)) a4 (a5.of (zun (by omega)) (fun s => ⟨zun (by omega), zun (by omega)⟩)) (a6.back hc hs hv)
theorem o_pair {q : Int} {M P : zM} (h : zRel q M P) (n m : Nat) : zOpn q 121 206 [] [(9, 0), (9, 0)] M P n m := by
  obtain ⟨⟨r0, r1⟩, rc, rh, rp, rb, rs, rw0, rx, ro, rk, rt, rr⟩ := id h
  obtain ⟨⟨a1, a2, a3⟩, ⟨b1, b2, b3⟩, c1, c2, c3⟩ := zcnt rc
  have k6 := e6 (d := (9, 0)) (d' := (9, 0)) (zCa2 r0 n m) (by simp only [Int.reduceAdd]; omega) (by simp only [Int.reduceAdd]; omega) (by simp only [Int.reduceAdd]; omega)
  rw [zga_un rc] at k6
  have l6 := e160 (n := n) (m := m) (d := (9, 0)) (d' := (9, 0)) (d'' := (9, 0)) r1 ⟨a2, a3⟩ ⟨b2, b3⟩ ⟨c2, c3⟩
  by_cases hz : zun0 P ≤ 0
  · have hc : zCk (P 179) := h.cle
    have hT := zsT_le hc
    obtain ⟨A, m1, m2, m3⟩ := e30 (n := n) (m := m) (d := (9, 0)) (d' := (9, 0)) (d'' := (9, 0)) hc h.1.1 h.cc
    have hA := h.run2 m3.d (zFs.rfl (P := P))
    obtain ⟨B, b1', b2', b3'⟩ := e60 (n := n) (m := m) (d := (9, 0)) hA.1.1
    have fB : zFd M B := m3.d.trans (fun r y hr => b3' r y (by omega))
    obtain ⟨v, M', P', p1, p2, p3, p4⟩ := pr_o (n := n) (m := m) h (zsT (P 179)).toNat 0 B P (9, 0) (9, 0) (by omega) (by omega) fB zFs.rfl (m2.of (b3' _ _ (by omega)) (fun s => by rw [b3' _ _ (by omega), b3' _ _ (by omega)]; exact ⟨rfl, rfl⟩)) (fun a x0 x1 i i0 i1 => by
      have := hc a x0 x1
      rw [b2' a x0 x1 i i0 (by omega)]
      exact hA.kk a x0 x1 i i0 i1)
    have t1 : zex 24 0 [] [(2, 65), (9, 0), (9, 0)] M (zKs, n, m) = some ((0, v), M', (zKs, n, m)) := by
      rw [← p1]
      simp (disch := omega) only [q24_0, m1, b1', zk_27, zk_65, zp_65_0 hA.1.1, zg_pos, ↓reduceIte, Int.reduceEq, Int.reduceLE, Int.reduceLT, Int.reduceAdd, Int.reduceSub, Int.reduceMul, Int.reduceNeg, zg_T, zbI_ok, zbL_ok, zbN_ok, zite1, zite2, zite3, zem, Int.cast_ofNat_Int, and_self, and_true, true_and, or_true, true_or, or_self, ite_not, if_true, if_false, not_true_eq_false, not_false_eq_true]
    refine ⟨v, M', P', ?_, fun r y hr => by rw [p3 _ _ (by omega)], ?_, fun r y hr => by rw [p4 _ _ (by omega)], h.run2 p3 p4⟩
    · simp (disch := omega) only [q121_0, q121_9, k6, hz, t1, zk_1, zk_2, zk_65, zp_1_0 r0, zp_1_7 r0, zg_pos, ↓reduceIte, Int.reduceEq, Int.reduceLE, Int.reduceLT, Int.reduceAdd, Int.reduceSub, Int.reduceMul, Int.reduceNeg, zg_T, zbI_ok, zbL_ok, zbN_ok, zite1, zite2, zite3, zem, Int.cast_ofNat_Int, and_self, and_true, true_and, or_true, true_or, or_self, ite_not, if_true, if_false, not_true_eq_false, not_false_eq_true]
    · simp (disch := omega) only [q206_0, l6, hz, p2, zk_178, zg_pos, ↓reduceIte, Int.reduceEq, Int.reduceLE, Int.reduceLT, Int.reduceAdd, Int.reduceSub, Int.reduceMul, Int.reduceNeg, zg_T, zbI_ok, zbL_ok, zbN_ok, zite1, zite2, zite3, zem, Int.cast_ofNat_Int, and_self, and_true, true_and, or_true, true_or, or_self, ite_not, if_true, if_false, not_true_eq_false, not_false_eq_true]
  · refine ⟨-3, M, P, ?_, zCf.rfl, ?_, zRf.rfl, h⟩
    · simp (disch := omega) only [q121_0, q121_9, k6, hz, zk_1, zk_2, zp_1_0 r0, zg_pos, ↓reduceIte, Int.reduceEq, Int.reduceLE, Int.reduceLT, Int.reduceAdd, Int.reduceSub, Int.reduceMul, Int.reduceNeg, zg_T, zbI_ok, zbL_ok, zbN_ok, zite1, zite2, zite3, zem, Int.cast_ofNat_Int, and_self, and_true, true_and, or_true, true_or, or_self, ite_not, if_true, if_false, not_true_eq_false, not_false_eq_true]
    · simp (disch := omega) only [q206_0, l6, hz, zk_178, zg_pos, ↓reduceIte, Int.reduceEq, Int.reduceLE, Int.reduceLT, Int.reduceAdd, Int.reduceSub, Int.reduceMul, Int.reduceNeg, zg_T, zbI_ok, zbL_ok, zbN_ok, zite1, zite2, zite3, zem, Int.cast_ofNat_Int, and_self, and_true, true_and, or_true, true_or, or_self, ite_not, if_true, if_false, not_true_eq_false, not_false_eq_true]
