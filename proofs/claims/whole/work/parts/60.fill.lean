/-! FILL -/
def zKT (M : zM) (c k : Int → Int) (N t : Int) : Prop := ∀ a i, 0 ≤ a → a ≤ 2 → 0 ≤ i → i < c a → (k (40 * a + i) ≠ 3 → M (6 + 4 * a) i = k (40 * a + i)) ∧ (k (40 * a + i) = 3 → zrk c k a i < t → M (6 + 4 * a) i = zdv (zrk c k a i).toNat N % 3)
theorem e22_f {n m : Nat} {c k : Int → Int} {N x1 : Int} (hN : 0 ≤ N ∧ N ≤ 2147483647) (hG : zrG c k ≤ 6) (hc : ∀ a, 0 ≤ a → a ≤ 2 → 0 ≤ c a ∧ c a ≤ 40) : ∀ (q : Nat) (t : Int) (M : zM), 0 ≤ t → t + q = zrG c k → zPC M → zGL M c k → zKT M c k N t → ∃ M', zex 22 6 [] [(2, 65), (0, x1), (0, zdv t.toNat N), (0, t)] M (zKs, n, m) = some ((9, 0), M', (zKs, n, m)) ∧ zKT M' c k N (zrG c k) ∧ ∀ r y, (r ≠ 6 ∧ r ≠ 10 ∧ r ≠ 14) → M' r y = M r y
  | 0, t, M, h0, h1, r0, hL, hS => by
    have e : t = zrG c k := by omega
    subst e
    exact ⟨M, by rw [q22_6, zg_pos (zk_65 n m), hL.1, if_pos (Int.le_refl _)], hS, fun _ _ _ => rfl⟩
  | q + 1, t, M, h0, h1, r0, hL, hS => by
    obtain ⟨L1, L2, L3⟩ := id hL
    obtain ⟨b, j, hb, hj, hg, g1, g2, g3⟩ := L2 t h0 (by omega)
    have hcb := hc b hb.1 hb.2
    have dn := zdv_nn t.toNat N hN.1
    have hcd := zCd3 r0 n m hb
    have e6 : 5 + 4 * b + 1 = 6 + 4 * b := by omega
    have kr := hcd.2.2.1
    have kp := hcd.2.2.2.2.2.1
    rw [e6] at kr kp
    have s1 : zex 22 6 [] [(2, 65), (0, x1), (0, zdv t.toNat N), (0, t)] M (zKs, n, m) = zex 22 6 [] [(2, 65), (0, x1), (0, zdv (t + 1).toNat N), (0, t + 1)] (zu M (6 + 4 * b) j (zdv t.toNat N % 3)) (zKs, n, m) := by
      have ed : zdv (t + 1).toNat N = zdv t.toNat N / 3 := by
        rw [show (t + 1).toNat = t.toNat + 1 by omega]
        rfl
      rw [q22_6, zg_pos (zk_65 n m), L1, if_neg (by omega), ed]
      simp (disch := omega) only [g1, g2, zrp3 r0 hb, zrk3 n m hb, kr, kp, zk_2, zk_3, zk_27, zk_65, zk_70, zk_71, zp_65_0 r0, zp_65_5 r0, zp_65_6 r0, zp_27_0 r0, zp_2_0 r0, ztd_p, ztm_p, zg_pos, zI, ↓reduceIte, Int.reduceEq, Int.reduceLE, Int.reduceLT, Int.reduceAdd, Int.reduceSub, Int.reduceMul, Int.reduceNeg, zg_T, zbI_ok, zbL_ok, zbN_ok, zite1, zite2, zite3, zem, Int.cast_ofNat_Int, and_self, and_true, true_and, or_true, true_or, or_self, ite_not, if_true, if_false, not_true_eq_false, not_false_eq_true]
    have f : ∀ r y, (r ≠ 6 ∧ r ≠ 10 ∧ r ≠ 14) → zu M (6 + 4 * b) j (zdv t.toNat N % 3) r y = M r y := fun r y hr => zun (by omega)
    obtain ⟨M', t1, t2, t3⟩ := e22_f (n := n) (m := m) (c := c) (k := k) (x1 := x1) hN hG hc q (t + 1) (zu M (6 + 4 * b) j (zdv t.toNat N % 3)) (by omega) (by omega) (zPC_t (fun r y => decide (r = 6 ∨ r = 10 ∨ r = 14)) (by decide +kernel) r0 (fun r y hr => f r y (by simp at hr; omega))) ⟨by rw [f _ _ (by omega), L1], fun t t0 t1 => by rw [f _ _ (by omega), f _ _ (by omega)]; exact L2 t t0 t1, fun b j b0 b2 j0 j1 hg => by rw [f _ _ (by omega), f _ _ (by omega)]; exact L3 b j b0 b2 j0 j1 hg⟩ (fun a i a0 a2 i0 i1 => by
      obtain ⟨s1, s2⟩ := hS a i a0 a2 i0 i1
      by_cases e : a = b ∧ i = j
      · obtain ⟨rfl, rfl⟩ := e
        refine ⟨fun x => absurd hg x, fun _ _ => ?_⟩
        rw [zus, g3]
      · have e2 : zu M (6 + 4 * b) j (zdv t.toNat N % 3) (6 + 4 * a) i = M (6 + 4 * a) i := by
          by_cases e3 : a = b
          · exact zun2 (by omega)
          · exact zun (by omega)
        rw [e2]
        refine ⟨s1, fun x y => s2 x ?_⟩
        have : zrk c k a i ≠ t := fun z => by
          obtain ⟨y1, y2⟩ := L3 a i a0 a2 i0 i1 x
          rw [z, g1] at y1
          rw [z, g2] at y2
          exact e ⟨y1.symm, y2.symm⟩
        omega)
    exact ⟨M', s1.trans t1, t2, fun r y hr => (t3 r y hr).trans (f r y hr)⟩
theorem e199_l1 {P : zM} {n m : Nat} {N g : Int} (r1 : zPR P) : ∀ (q : Nat) (t : Int), 0 ≤ t → t + q = 120 → zex 199 21 [] [(2, 178), (0, N), (0, g), (0, t)] (zcpy P 180 0 220 0 t) (zKs, n, m) = zex 199 21 [] [(2, 178), (0, N), (0, g), (0, 120)] (zcpy P 180 0 220 0 120) (zKs, n, m)
  | 0, t, h0, h1 => by rw [show t = 120 by omega]
  | q + 1, t, h0, h1 => by
    have zs := zcpy_z (M := P) (a := 180) (b := 220) (dp := 0) h0
    rw [Int.zero_add] at zs
    rw [← e199_l1 (n := n) (m := m) (N := N) (g := g) r1 q (t + 1) (by omega) (by omega), q199_21]
    simp (disch := omega) only [zk_178, zk_180, zk_220, zcpy_r, zp_178_2 r1, zp_178_65 r1, zs, zg_pos, if_neg, zI, ↓reduceIte, Int.reduceEq, Int.reduceLE, Int.reduceLT, Int.reduceAdd, Int.reduceSub, Int.reduceMul, Int.reduceNeg, zg_T, zbI_ok, zbL_ok, zbN_ok, zite1, zite2, zite3, zem, Int.cast_ofNat_Int, and_self, and_true, true_and, or_true, true_or, or_self, ite_not, if_true, if_false, not_true_eq_false, not_false_eq_true]
theorem e199_l2 {P : zM} {n m : Nat} {N g : Int} (r1 : zPR P) : ∀ (q : Nat) (t : Int), 0 ≤ t → t + q = 120 → zex 199 41 [] [(2, 178), (0, N), (0, g), (0, t)] (zcpy P 220 0 180 0 t) (zKs, n, m) = some ((0, g), zcpy P 220 0 180 0 120, (zKs, n, m))
  | 0, t, h0, h1 => by rw [q199_41, if_pos (by omega), show t = 120 by omega]
  | q + 1, t, h0, h1 => by
    have zs := zcpy_z (M := P) (a := 220) (b := 180) (dp := 0) h0
    rw [Int.zero_add] at zs
    rw [← e199_l2 (n := n) (m := m) (N := N) (g := g) r1 q (t + 1) (by omega) (by omega), q199_41]
    simp (disch := omega) only [zk_178, zk_180, zk_220, zcpy_r, zp_178_2 r1, zp_178_65 r1, zs, zg_pos, if_neg, zI, ↓reduceIte, Int.reduceEq, Int.reduceLE, Int.reduceLT, Int.reduceAdd, Int.reduceSub, Int.reduceMul, Int.reduceNeg, zg_T, zbI_ok, zbL_ok, zbN_ok, zite1, zite2, zite3, zem, Int.cast_ofNat_Int, and_self, and_true, true_and, or_true, true_or, or_self, ite_not, if_true, if_false, not_true_eq_false, not_false_eq_true]
theorem o_fill {q : Int} {M P : zM} (h : zRel q M P) (n m : Nat) (N : Int) (zN : zI N) : zOpn q 118 199 [(0, N), (9, 0)] [(0, N), (9, 0), (9, 0)] M P n m := by
  obtain ⟨⟨r0, r1⟩, rc, rh, rp, rb, rs, rw0, rx, ro, rk, rt, rr⟩ := id h
  obtain ⟨⟨a1, a2, a3⟩, ⟨b1, b2, b3⟩, c1, c2, c3⟩ := zcnt rc
  have zN' : -2147483648 ≤ N ∧ N ≤ 2147483647 := zN
  have k6 := e6 (d := (9, 0)) (d' := (9, 0)) (zCa2 r0 n m) (by simp only [Int.reduceAdd]; omega) (by simp only [Int.reduceAdd]; omega) (by simp only [Int.reduceAdd]; omega)
  rw [zga_un rc, ← zrG_un] at k6
  have l6 := e160 (n := n) (m := m) (d := (9, 0)) (d' := (9, 0)) (d'' := (9, 0)) r1 ⟨a2, a3⟩ ⟨b2, b3⟩ ⟨c2, c3⟩
  rw [← zrG_un] at l6
  have hc0 : 0 ≤ zrG (P 179) (P 180) := zrk_nn
  have hc := h.cle
  have f20 : ∀ Q : zM, zex 20 0 [] [(0, zrG (P 179) (P 180)), (9, 0), (9, 0), (9, 0)] Q (zKs, n, m) = some ((1, (3 : Int) ^ (min (zrG (P 179) (P 180)) 20).toNat), Q, (zKs, n, m)) := fun Q => e20 hc0
  have f194 : ∀ Q : zM, zex 194 0 [] [(0, zrG (P 179) (P 180)), (9, 0), (9, 0)] Q (zKs, n, m) = some ((0, (3 : Int) ^ (min (zrG (P 179) (P 180)) 19).toNat), Q, (zKs, n, m)) := fun Q => e194 hc0
  by_cases hn : N < 0
  · refine ⟨-1, M, P, ?_, zCf.rfl, ?_, zRf.rfl, h⟩
    · simp (disch := omega) only [q118_0, q118_12, k6, hn, zk_1, zk_2, zp_1_0 r0, zg_pos, ↓reduceIte, Int.reduceEq, Int.reduceLE, Int.reduceLT, Int.reduceAdd, Int.reduceSub, Int.reduceMul, Int.reduceNeg, zg_T, zbI_ok, zbL_ok, zbN_ok, zite1, zite2, zite3, zem, Int.cast_ofNat_Int, and_self, and_true, true_and, or_true, true_or, or_self, ite_not, if_true, if_false, not_true_eq_false, not_false_eq_true]
    · simp (disch := omega) only [q199_0, q199_12, l6, hn, zk_178, zg_pos, ↓reduceIte, Int.reduceEq, Int.reduceLE, Int.reduceLT, Int.reduceAdd, Int.reduceSub, Int.reduceMul, Int.reduceNeg, zg_T, zbI_ok, zbL_ok, zbN_ok, zite1, zite2, zite3, zem, Int.cast_ofNat_Int, and_self, and_true, true_and, or_true, true_or, or_self, ite_not, if_true, if_false, not_true_eq_false, not_false_eq_true]
  · by_cases hp : N < (3 : Int) ^ (min (zrG (P 179) (P 180)) 20).toNat
    · have g2 : zex 199 0 [] [(2, 178), (0, N), (9, 0), (9, 0)] P (zKs, n, m) = zex 199 14 [] [(2, 178), (0, N), (0, zrG (P 179) (P 180)), (9, 0)] P (zKs, n, m) := by
        by_cases h20 : 20 ≤ zrG (P 179) (P 180)
        · simp (disch := omega) only [q199_0, l6, hn, h20, zk_178, zg_pos, ↓reduceIte, Int.reduceEq, Int.reduceLE, Int.reduceLT, Int.reduceAdd, Int.reduceSub, Int.reduceMul, Int.reduceNeg, zg_T, zbI_ok, zbL_ok, zbN_ok, zite1, zite2, zite3, zem, Int.cast_ofNat_Int, and_self, and_true, true_and, or_true, true_or, or_self, ite_not, if_true, if_false, not_true_eq_false, not_false_eq_true]
        · rw [show (min (zrG (P 179) (P 180)) 20).toNat = (min (zrG (P 179) (P 180)) 19).toNat by omega] at hp
          simp (disch := omega) only [q199_0, l6, hn, h20, f194, hp, zk_178, zg_pos, ↓reduceIte, Int.reduceEq, Int.reduceLE, Int.reduceLT, Int.reduceAdd, Int.reduceSub, Int.reduceMul, Int.reduceNeg, zg_T, zbI_ok, zbL_ok, zbN_ok, zite1, zite2, zite3, zem, Int.cast_ofNat_Int, and_self, and_true, true_and, or_true, true_or, or_self, ite_not, if_true, if_false, not_true_eq_false, not_false_eq_true]
      by_cases hz : zrG (P 179) (P 180) ≤ 6
      · obtain ⟨A, x1, x2, x3⟩ := e29 (n := n) (m := m) (d := (9, 0)) (d' := (9, 0)) (d'' := (9, 0)) hz hc r0 h.cc h.kk
        have hA := h.run2 x3.d (zFs.rfl (P := P))
        obtain ⟨B, y1, y2, y3⟩ := e22_f (n := n) (m := m) (c := P 179) (k := P 180) (N := N) (x1 := N) (by omega) hz hc (zrG (P 179) (P 180)).toNat 0 A (by omega) (by omega) hA.1.1 x2 (fun a i u0 u2 i0 i1 => ⟨fun _ => hA.kk a u0 u2 i i0 i1, fun _ y => by have := zrk_nn (c := P 179) (k := P 180) (a := a) (i := i); omega⟩)
        have y1' : zex 22 6 [] [(2, 65), (0, N), (0, N), (0, 0)] A (zKs, n, m) = some ((9, 0), B, (zKs, n, m)) := y1
        have u1 : ∀ r y, ((r ≠ 6 ∧ r ≠ 10 ∧ r ≠ 14) ∧ r ≠ 70 ∧ r ≠ 71 ∧ (r ≠ 65 ∨ y ≠ 4)) → B r y = M r y := fun r y hr => by rw [y3 _ _ (by omega), x3 _ _ (by omega)]
        -- the reference
        have p1 := e199_l1 (n := n) (m := m) (N := N) (g := zrG (P 179) (P 180)) r1 120 0 (by omega) (by omega)
        rw [zcpy_0] at p1
        have fE : ∀ r y, r ≠ 220 → zcpy P 180 0 220 0 120 r y = P r y := fun r y hr => zcpy_r hr
        have vE : ∀ x, 0 ≤ x → x < 120 → zcpy P 180 0 220 0 120 220 x = P 180 x := fun x x0 x1 => by rw [zcpy_in (by omega), show 0 + (x - 0) = x by omega]
        generalize zcpy P 180 0 220 0 120 = E at p1 fE vE
        have rE : zPR E := zPR_t (fun r y => decide (r = 220)) (by decide +kernel) r1 (fun r y hr => fE r y (by simpa using hr))
        obtain ⟨F, z1, z2, z3⟩ := e195 (P := E) (n := n) (m := m) (c := P 179) (k := P 180) (R := 220) (N := N) (d := (9, 0)) (d' := (9, 0)) (d'' := (9, 0)) (.inr rfl) (by omega) (fun a x y => by rw [fE _ _ (by omega)]; exact h.cr.1 a x y) rE (fun x _ _ => fE _ _ (by omega)) vE
        have fF : ∀ r y, r ≠ 220 → F r y = P r y := fun r y hr => by rw [z3 _ _ hr, fE _ _ hr]
        have rF : zPR F := zPR_t (fun r y => decide (r = 220)) (by decide +kernel) r1 (fun r y hr => fF r y (by simpa using hr))
        have p2 := e199_l2 (n := n) (m := m) (N := N) (g := zrG (P 179) (P 180)) rF 120 0 (by omega) (by omega)
        rw [zcpy_0] at p2
        have u2 : ∀ r y, (r ≠ 220 ∧ r ≠ 180) → zcpy F 220 0 180 0 120 r y = P r y := fun r y hr => by rw [zcpy_r hr.2, fF _ _ hr.1]
        have vP : ∀ x, 0 ≤ x → x < 120 → zcpy F 220 0 180 0 120 180 x = zkf (P 179) (P 180) N x := fun x x0 x1 => by rw [zcpy_in (by omega), show 0 + (x - 0) = x by omega, z2 x x0 x1]
        generalize zcpy F 220 0 180 0 120 = P1 at p2 u2 vP
        have hh : zRel q B P1 := by
          refine ⟨⟨zPC_t (fun r y => decide (r = 6 ∨ r = 10 ∨ r = 14) || decide (r = 70 ∨ r = 71) || decide (r = 65 ∧ y = 4)) (by decide +kernel) r0 (fun r y hr => u1 r y (by simp at hr; omega)), zPR_t (fun r y => decide (r = 180 ∨ r = 220)) (by decide +kernel) r1 (fun r y hr => u2 r y (by simp at hr; omega))⟩, ?_, (by (simp (disch := omega) only [u1, u2]; exact rh)), rp.of (by (intros; first | rfl | (simp (disch := omega) only [u1, u2, and_self]))) (by (intros; first | rfl | (simp (disch := omega) only [u1, u2, and_self]))) (by (intros; first | rfl | (simp (disch := omega) only [u1, u2, and_self]))) (by (intros; first | rfl | (simp (disch := omega) only [u1, u2, and_self]))), rb.of (by (intros; first | rfl | (simp (disch := omega) only [u1, u2, and_self]))) (by (intros; first | rfl | (simp (disch := omega) only [u1, u2, and_self]))) (by (intros; first | rfl | (simp (disch := omega) only [u1, u2, and_self]))), rs.of (by (intros; first | rfl | (simp (disch := omega) only [u1, u2, and_self]))) (by (intros; first | rfl | (simp (disch := omega) only [u1, u2, and_self]))) (by (intros; first | rfl | (simp (disch := omega) only [u1, u2, and_self]))) (by (intros; first | rfl | (simp (disch := omega) only [u1, u2, and_self]))), rw0.of (by (intros; first | rfl | (simp (disch := omega) only [u1, u2, and_self]))) (by (intros; first | rfl | (simp (disch := omega) only [u1, u2, and_self]))) (by (intros; first | rfl | (simp (disch := omega) only [u1, u2, and_self]))) (by (intros; first | rfl | (simp (disch := omega) only [u1, u2, and_self]))) (by (intros; first | rfl | (simp (disch := omega) only [u1, u2, and_self]))) (by (intros; first | rfl | (simp (disch := omega) only [u1, u2, and_self]))), rx.of (by (intros; first | rfl | (simp (disch := omega) only [u1, u2, and_self]))) (by (intros; first | rfl | (simp (disch := omega) only [u1, u2, and_self]))) (by (intros; first | rfl | (simp (disch := omega) only [u1, u2, and_self]))) (by (intros; first | rfl | (simp (disch := omega) only [u1, u2, and_self]))), ro.of (by (intros; first | rfl | (simp (disch := omega) only [u1, u2, and_self]))) (by (intros; first | rfl | (simp (disch := omega) only [u1, u2, and_self]))) (by (intros; first | rfl | (simp (disch := omega) only [u1, u2, and_self]))) (by (intros; first | rfl | (simp (disch := omega) only [u1, u2, and_self]))), rk.of (by (intros; first | rfl | (simp (disch := omega) only [u1, u2, and_self]))) (by (intros; first | rfl | (simp (disch := omega) only [u1, u2, and_self]))) (by (intros; first | rfl | (simp (disch := omega) only [u1, u2, and_self]))) (by (intros; first | rfl | (simp (disch := omega) only [u1, u2, and_self]))) (by (intros; first | rfl | (simp (disch := omega) only [u1, u2, and_self]))), rt.of (by (intros; first | rfl | (simp (disch := omega) only [u1, u2, and_self]))) (by (intros; first | rfl | (simp (disch := omega) only [u1, u2, and_self]))), (by (simp (disch := omega) only [u1, u2]; exact rr))⟩
          intro a u0 u2'
          obtain ⟨g1, g2', g3, g4⟩ := rc a u0 u2'
          have hca := hc a u0 u2'
          rw [u1 _ _ (by omega), u2 _ _ (by omega)]
          refine ⟨g1, g2', g3, fun i i0 i1 => ?_⟩
          obtain ⟨f1, f2, f3, f4, f5, f6⟩ := g4 i i0 i1
          obtain ⟨s1, s2⟩ := y2 a i u0 u2' i0 i1
          rw [u1 (2 + 5 + 4 * a) _ (by omega), u1 (2 + 6 + 4 * a) _ (by omega), vP _ (by omega) (by omega), u2 181 _ (by omega), u2 182 _ (by omega), zkf_at (by omega), show (2 : Int) + 4 + 4 * a = 6 + 4 * a by omega]
          by_cases e : P 180 (40 * a + i) = 3
          · have := zrk_lt (k := P 180) (fun a x y => (hc a x y).1) ⟨u0, u2'⟩ i0 i1 e
            rw [if_pos ⟨i1, e⟩, s2 e this]
            have dn := zdv_nn (zrk (P 179) (P 180) a i).toNat N (by omega)
            exact ⟨rfl, f2, f3, by omega, by omega, f6⟩
          · rw [if_neg (fun x => e x.2), s1 e]
            exact ⟨rfl, f2, f3, f4, f5, f6⟩
        refine ⟨zrG (P 179) (P 180), B, P1, ?_, fun r y hr => u1 r y (by omega), ?_, fun r y hr => u2 r y (by omega), hh⟩
        · simp (disch := omega) only [q118_0, q22_0, k6, hn, f20, zcmp_lt, hp, hz, x1, y1', zk_1, zk_2, zk_65, zp_1_0 r0, zp_1_7 r0, zg_pos, ↓reduceIte, Int.reduceEq, Int.reduceLE, Int.reduceLT, Int.reduceAdd, Int.reduceSub, Int.reduceMul, Int.reduceNeg, zg_T, zbI_ok, zbL_ok, zbN_ok, zite1, zite2, zite3, zem, Int.cast_ofNat_Int, and_self, and_true, true_and, or_true, true_or, or_self, ite_not, if_true, if_false, not_true_eq_false, not_false_eq_true]
        · rw [g2, q199_14, if_pos hz, p1, q199_21, if_pos (by omega)]
          simp (disch := omega) only [z1, p2, zk_178, zp_178_65 rE, zg_pos, ↓reduceIte, Int.reduceEq, Int.reduceLE, Int.reduceLT, Int.reduceAdd, Int.reduceSub, Int.reduceMul, Int.reduceNeg, zg_T, zbI_ok, zbL_ok, zbN_ok, zite1, zite2, zite3, zem, Int.cast_ofNat_Int, and_self, and_true, true_and, or_true, true_or, or_self, ite_not, if_true, if_false, not_true_eq_false, not_false_eq_true]
      · refine ⟨-6, M, P, ?_, zCf.rfl, ?_, zRf.rfl, h⟩
        · simp (disch := omega) only [q118_0, k6, hn, f20, zcmp_lt, hp, hz, zk_1, zk_2, zp_1_0 r0, zg_pos, ↓reduceIte, Int.reduceEq, Int.reduceLE, Int.reduceLT, Int.reduceAdd, Int.reduceSub, Int.reduceMul, Int.reduceNeg, zg_T, zbI_ok, zbL_ok, zbN_ok, zite1, zite2, zite3, zem, Int.cast_ofNat_Int, and_self, and_true, true_and, or_true, true_or, or_self, ite_not, if_true, if_false, not_true_eq_false, not_false_eq_true]
        · rw [g2, q199_14, if_neg hz]
    · have h20 : ¬ 20 ≤ zrG (P 179) (P 180) := fun x => by
        rw [show (min (zrG (P 179) (P 180)) 20).toNat = 20 by omega] at hp
        have : (3 : Int) ^ 20 = 3486784401 := by decide +kernel
        omega
      have hp2 : ¬ N < (3 : Int) ^ (min (zrG (P 179) (P 180)) 19).toNat := by
        rw [show (min (zrG (P 179) (P 180)) 19).toNat = (min (zrG (P 179) (P 180)) 20).toNat by omega]
        exact hp
      refine ⟨-1, M, P, ?_, zCf.rfl, ?_, zRf.rfl, h⟩
      · simp (disch := omega) only [q118_0, q118_12, k6, hn, f20, zcmp_lt, hp, zk_1, zk_2, zp_1_0 r0, zg_pos, ↓reduceIte, Int.reduceEq, Int.reduceLE, Int.reduceLT, Int.reduceAdd, Int.reduceSub, Int.reduceMul, Int.reduceNeg, zg_T, zbI_ok, zbL_ok, zbN_ok, zite1, zite2, zite3, zem, Int.cast_ofNat_Int, and_self, and_true, true_and, or_true, true_or, or_self, ite_not, if_true, if_false, not_true_eq_false, not_false_eq_true]
      · simp (disch := omega) only [q199_0, q199_12, l6, hn, h20, f194, hp2, zk_178, zg_pos, ↓reduceIte, Int.reduceEq, Int.reduceLE, Int.reduceLT, Int.reduceAdd, Int.reduceSub, Int.reduceMul, Int.reduceNeg, zg_T, zbI_ok, zbL_ok, zbN_ok, zite1, zite2, zite3, zem, Int.cast_ofNat_Int, and_self, and_true, true_and, or_true, true_or, or_self, ite_not, if_true, if_false, not_true_eq_false, not_false_eq_true]
