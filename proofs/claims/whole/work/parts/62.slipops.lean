/-! SLIPS, SLIP, PAIR -/
theorem zSL.of {M M' : zM} {c : Int → Int} {g : Int} (h : zSL M c g) (h1 : M' 65 7 = M 65 7) (h2 : ∀ s, M' 72 s = M 72 s ∧ M' 73 s = M 73 s) : zSL M' c g := ⟨by rw [h1, h.1], fun s s0 s1 => by rw [(h2 s).1, (h2 s).2]; exact h.2 s s0 s1⟩
/-- the class's kinds -/
def zKK (M : zM) (c k : Int → Int) : Prop := ∀ a, 0 ≤ a → a ≤ 2 → ∀ i, 0 ≤ i → i < c a → M (30 + a) i = k (40 * a + i)
theorem e31 {M : zM} {n m : Nat} {c : Int → Int} {s : Int} (hc : zCk c) (r0 : zPC M) (hL : zSL M c (zsT c)) (hs : 0 ≤ s ∧ s < zsT c) : zex 31 0 [] [(2, 65), (0, s)] M (zKs, n, m) = some ((9, 0), zu M (30 + zxa c s) (zxp c s + 1) 2, (zKs, n, m)) := by
  obtain ⟨x1, x2, x3, x4⟩ := zx_ok hc hs
  obtain ⟨l1, l2⟩ := hL.2 s hs.1 hs.2
  have hT := zsT_le hc
  simp (disch := omega) only [q31_0, l1, l2, zrp29 r0 x1, zrk29 n m x1, zk_27, zk_29, zk_65, zk_72, zk_73, zp_65_0 r0, zp_65_8 r0, zp_65_9 r0, zp_27_3 r0, zg_pos, zI, ↓reduceIte, Int.reduceEq, Int.reduceLE, Int.reduceLT, Int.reduceAdd, Int.reduceSub, Int.reduceMul, Int.reduceNeg, zg_T, zbI_ok, zbL_ok, zbN_ok, zite1, zite2, zite3, zem, Int.cast_ofNat_Int, and_self, and_true, true_and, or_true, true_or, or_self, ite_not, if_true, if_false, not_true_eq_false, not_false_eq_true]
theorem e32 {M : zM} {n m : Nat} {c : Int → Int} {s : Int} {d d' : zV} (hc : zCk c) (r0 : zPC M) (hL : zSL M c (zsT c)) (hs : 0 ≤ s ∧ s < zsT c) : zex 32 0 [] [(2, 65), (0, s), d, d'] M (zKs, n, m) = some ((9, 0), zu M (30 + zxa c s) (zxp c s + 1) (M (6 + 4 * zxa c s) (zxp c s + 1)), (zKs, n, m)) := by
  obtain ⟨x1, x2, x3, x4⟩ := zx_ok hc hs
  obtain ⟨l1, l2⟩ := hL.2 s hs.1 hs.2
  have hT := zsT_le hc
  have hcd := zCd3 r0 n m x1
  have e6 : 5 + 4 * zxa c s + 1 = 6 + 4 * zxa c s := by omega
  have kr := hcd.2.2.1
  have kp := hcd.2.2.2.2.2.1
  rw [e6] at kr kp
  simp (disch := omega) only [q32_0, l1, l2, zrp29 r0 x1, zrk29 n m x1, zrp3 r0 x1, zrk3 n m x1, kr, kp, zk_2, zk_3, zk_27, zk_29, zk_65, zk_72, zk_73, zp_65_0 r0, zp_65_8 r0, zp_65_9 r0, zp_27_0 r0, zp_27_3 r0, zp_2_0 r0, zg_pos, zI, ↓reduceIte, Int.reduceEq, Int.reduceLE, Int.reduceLT, Int.reduceAdd, Int.reduceSub, Int.reduceMul, Int.reduceNeg, zg_T, zbI_ok, zbL_ok, zbN_ok, zite1, zite2, zite3, zem, Int.cast_ofNat_Int, and_self, and_true, true_and, or_true, true_or, or_self, ite_not, if_true, if_false, not_true_eq_false, not_false_eq_true]
theorem zKK.give {M : zM} {c k : Int → Int} {s : Int} (hc : zCk c) (hs : 0 ≤ s ∧ s < zsT c) (h : zKK M c k) : zKK (zu M (30 + zxa c s) (zxp c s + 1) 2) c (zks c k s) := fun a a0 a2 i i0 i1 => by
  obtain ⟨x1, x2, x3, x4⟩ := zx_ok hc hs
  have hca := hc a a0 a2
  unfold zks
  by_cases e : a = zxa c s ∧ i = zxp c s + 1
  · rw [if_pos (by omega), e.1, e.2, zus]
  · rw [if_neg (by omega), zu_at, if_neg (by omega)]
    exact h a a0 a2 i i0 i1
theorem zKK.back {M : zM} {c k : Int → Int} {s v : Int} (hc : zCk c) (hs : 0 ≤ s ∧ s < zsT c) (h : zKK M c (zks c k s)) (hv : v = k (40 * zxa c s + zxp c s + 1)) : zKK (zu M (30 + zxa c s) (zxp c s + 1) v) c k := fun a a0 a2 i i0 i1 => by
  obtain ⟨x1, x2, x3, x4⟩ := zx_ok hc hs
  have hca := hc a a0 a2
  by_cases e : a = zxa c s ∧ i = zxp c s + 1
  · rw [e.1, e.2, zus, hv, show 40 * zxa c s + zxp c s + 1 = 40 * zxa c s + (zxp c s + 1) by omega]
  · rw [zu_at, if_neg (by omega), h a a0 a2 i i0 i1]
    exact if_neg (by omega)
/-- a slip explains -/
def zA1 (P : zM) (s : Int) : Prop := zAll (P 179) (zks (P 179) (P 180) s) (P 181) (P 178 5) (P 178 16) (P 178 21) (zs0 (P 178 10) (P 178 11) (P 178 12)) (P 190) (P 191) (P 192)
theorem zA1_2 {P : zM} {s : Int} : zA2 P s s = zA1 P s := by
  unfold zA2 zA1
  rw [zks_2]
def zVs (P : zM) (s : Int) : Int := 100 * zxa (P 179) s + zxp (P 179) s
theorem e23_b {q : Int} {M P : zM} {n m : Nat} {f : Nat} (h : zRel q M P) (hf : (f : Int) < zsT (P 179)) (hL : zSL M (P 179) (zsT (P 179))) (hK : zKK M (P 179) (P 180)) (hF : zFo M (zA1 P) (zVs P) f) : ∃ M', zex 23 10 [] [(2, 65), (0, (f : Int))] M (zKs, n, m) = zex 23 10 [] [(2, 65), (0, (f : Int) + 1)] M' (zKs, n, m) ∧ zSL M' (P 179) (zsT (P 179)) ∧ zKK M' (P 179) (P 180) ∧ zFo M' (zA1 P) (zVs P) (f + 1) ∧ zFd M M' := by
  have hc : zCk (P 179) := h.cle
  have hT := zsT_le hc
  have hs : 0 ≤ (f : Int) ∧ (f : Int) < zsT (P 179) := ⟨by omega, hf⟩
  obtain ⟨x1, x2, x3, x4⟩ := zx_ok hc hs
  have r0 := h.1.1
  have g1 := e31 (n := n) (m := m) hc r0 hL hs
  have k1 := hK.give hc hs
  have fA : zFd M (zu M (30 + zxa (P 179) f) (zxp (P 179) f + 1) 2) := zFd.rfl.zu (by omega)
  have mA : ∀ r y, (r < 30 ∨ 32 < r) → zu M (30 + zxa (P 179) f) (zxp (P 179) f + 1) 2 r y = M r y := fun r y hr => zun (by omega)
  generalize zu M (30 + zxa (P 179) f) (zxp (P 179) f + 1) 2 = A at g1 k1 fA mA
  have hA := h.run2 fA (zFs.rfl (P := P))
  obtain ⟨B, w, b1, b2, b3, b4⟩ := e26 (n := n) (m := m) (d := (9, 0)) (k := zks (P 179) (P 180) f) h.ct h.s0 h.sp hA.cd hA.st k1
  have fB : zFd M B := fA.trans b2.d
  have mB : ∀ r y, (r < 27 ∨ 35 < r) → B r y = M r y := fun r y hr => by rw [b2 _ _ (by omega), mA _ _ (by omega)]
  have s1 : zex 23 10 [] [(2, 65), (0, (f : Int))] M (zKs, n, m) = zbI (some ((0, w), B, (zKs, n, m))) (fun v2 M2 X2 => if v2 = 0 then zex 23 33 [] [(2, 65), (0, (f : Int))] M2 X2 else zg (zkd X2 65 = (8, 0) ∧ 0 < (M2 65 8)) (zg ((zkd X2 (M2 65 8)).1 = 0 ∧ 0 ≤ (f : Int) ∧ (f : Int) < ((zkd X2 (M2 65 8)).2 : Int)) (zg (zI ((100 : Int) * (M2 (M2 65 8) f))) (zg (zkd X2 65 = (8, 0) ∧ 0 < (M2 65 9)) (zg ((zkd X2 (M2 65 9)).1 = 0 ∧ 0 ≤ (f : Int) ∧ (f : Int) < ((zkd X2 (M2 65 9)).2 : Int)) (zg (zI (((100 : Int) * (M2 (M2 65 8) f)) + (M2 (M2 65 9) f))) (zg (zkd X2 65 = (8, 0)) (zbN (zex 28 0 [] [(2, 65), (0, (((100 : Int) * (M2 (M2 65 8) f)) + (M2 (M2 65 9) f)))] M2 X2) (fun M3 X3 => zex 23 33 [] [(2, 65), (0, (f : Int))] M3 X3))))))))) := by
    rw [q23_10, zg_pos (zk_65 n m), hL.1, if_neg (by omega), zg_pos (zk_65 n m), g1, zbN_ok, zg_pos (zk_65 n m), b1]
  rw [zbI_ok] at s1
  have fin : ∀ Q : zM, zFd M Q → (∀ r y, (30 ≤ r ∧ r ≤ 32) → Q r y = B r y) → (∀ r y, (r = 72 ∨ r = 73 ∨ (r = 65 ∧ y = 7)) → Q r y = M r y) → ∃ M', zex 23 33 [] [(2, 65), (0, (f : Int))] Q (zKs, n, m) = zex 23 10 [] [(2, 65), (0, (f : Int) + 1)] M' (zKs, n, m) ∧ zSL M' (P 179) (zsT (P 179)) ∧ zKK M' (P 179) (P 180) ∧ zFd M M' ∧ ∀ r y, (r < 30 ∨ 32 < r) → M' r y = Q r y := fun Q fQ kQ lQ => by
    have rQ := fQ.pc r0
    have LQ : zSL Q (P 179) (zsT (P 179)) := hL.of (lQ _ _ (by omega)) (fun s => ⟨lQ _ _ (by omega), lQ _ _ (by omega)⟩)
    have g2 := e32 (n := n) (m := m) (d := (9, 0)) (d' := (9, 0)) hc rQ LQ hs
    have KQ : zKK Q (P 179) (zks (P 179) (P 180) f) := fun a a0 a2 i i0 i1 => by rw [kQ _ _ (by omega)]; exact b3 a a0 a2 i i0 i1
    have hv : Q (6 + 4 * zxa (P 179) f) (zxp (P 179) f + 1) = P 180 (40 * zxa (P 179) f + zxp (P 179) f + 1) := by
      rw [fQ _ _ (by omega), h.kk _ x1.1 x1.2 _ (by omega) x3, Int.add_assoc]
    refine ⟨_, ?_, LQ.of (zun (by omega)) (fun s => ⟨zun (by omega), zun (by omega)⟩), KQ.back hc hs hv, fQ.zu (by omega), fun r y hr => zun (by omega)⟩
    rw [q23_33, zg_pos (zk_65 n m), g2, zbN_ok, zg_pos (by unfold zI; omega)]
  have ct := zct_le (A := zA1 P) f
  rcases b4 with ⟨rfl, b4⟩ | ⟨rfl, b4⟩
  · obtain ⟨l1, l2⟩ := hL.2 f hs.1 hs.2
    have hb := mB 65 11 (by omega)
    have rB := fB.pc r0
    have e1 := e28 (n := n) (m := m) (x := zVs P f) rB (by rw [hb, hF.1]; omega)
    obtain ⟨M', z1, z2, z3, z4, z5⟩ := fin (zu (zu B 74 (B 65 11) (zVs P f)) 65 11 (B 65 11 + 1)) ((fB.zu (by omega)).zu (by omega)) (fun r y hr => by rw [zun (by omega), zun (by omega)]) (fun r y hr => by
      by_cases e : r = 65
      · rw [zun2 (by omega), zun (by omega), mB _ _ (by omega)]
      · rw [zun e, zun (by omega), mB _ _ (by omega)])
    refine ⟨M', ?_, z2, z3, zFo_y hF b4 ?_ ?_ (fun t ht => ?_), z4⟩
    · have l1' : B 72 f = zxa (P 179) f := by rw [mB _ _ (by omega), l1]
      have l2' : B 73 f = zxp (P 179) f := by rw [mB _ _ (by omega), l2]
      rw [s1, ← z1, if_neg (by omega)]
      simp (disch := omega) only [l1', l2', zk_65, zk_72, zk_73, zp_65_8 rB, zp_65_9 rB, zg_pos, zI, ↓reduceIte, Int.reduceEq, Int.reduceLE, Int.reduceLT, Int.reduceAdd, Int.reduceSub, Int.reduceMul, Int.reduceNeg, zg_T, zbI_ok, zbL_ok, zbN_ok, zite1, zite2, zite3, zem, Int.cast_ofNat_Int, and_self, and_true, true_and, or_true, true_or, or_self, ite_not, if_true, if_false, not_true_eq_false, not_false_eq_true]
      show zbN (zex 28 0 [] [(2, 65), (0, zVs P f)] B (zKs, n, m)) _ = _
      rw [e1, zbN_ok]
    · rw [z5 _ _ (by omega), zus, hb]
    · rw [z5 _ _ (by omega), zun (by omega), ← hb, zus]
    · rw [z5 _ _ (by omega), zun (by omega), zun2 (by rw [hb]; exact ht), mB _ _ (by omega)]
  · obtain ⟨M', z1, z2, z3, z4, z5⟩ := fin B fB (fun r y hr => rfl) (fun r y hr => mB _ _ (by omega))
    refine ⟨M', ?_, z2, z3, zFo_n hF b4 (by rw [z5 _ _ (by omega), mB _ _ (by omega)]) (fun t => by rw [z5 _ _ (by omega), mB _ _ (by omega)]), z4⟩
    rw [s1, ← z1, if_pos rfl]
theorem e23_l {q : Int} {P : zM} {n m : Nat} : ∀ (z f : Nat) (M : zM), ((f + z : Nat) : Int) = zsT (P 179) → zRel q M P → zSL M (P 179) (zsT (P 179)) → zKK M (P 179) (P 180) → zFo M (zA1 P) (zVs P) f → ∃ M', zex 23 10 [] [(2, 65), (0, (f : Int))] M (zKs, n, m) = some ((9, 0), M', (zKs, n, m)) ∧ zFo M' (zA1 P) (zVs P) (f + z) ∧ zFd M M'
  | 0, f, M, hz, h, hL, hK, hF => by
    refine ⟨M, ?_, hF, zFd.rfl⟩
    rw [q23_10, zg_pos (zk_65 n m), hL.1, if_pos (by omega)]
  | z + 1, f, M, hz, h, hL, hK, hF => by
    obtain ⟨A, a1, a2, a3, a4, a5⟩ := e23_b (n := n) (m := m) h (by omega) hL hK hF
    obtain ⟨B, b1, b2, b3⟩ := e23_l (n := n) (m := m) z (f + 1) A (by omega) (h.run2 a5 zFs.rfl) a2 a3 a4
    refine ⟨B, ?_, by rw [show f + (z + 1) = f + 1 + z by omega]; exact b2, a5.trans b3⟩
    rw [a1]
    exact b1
theorem e23 {q : Int} {M P : zM} {n m : Nat} (h : zRel q M P) : ∃ M', zex 23 0 [] [(2, 65), (9, 0)] M (zKs, n, m) = some ((9, 0), M', (zKs, n, m)) ∧ zFo M' (zA1 P) (zVs P) (zsT (P 179)).toNat ∧ zFd M M' := by
  have hc : zCk (P 179) := h.cle
  have hT := zsT_le hc
  obtain ⟨A, a1, a2, a3⟩ := e30 (n := n) (m := m) (d := (9, 0)) (d' := (9, 0)) (d'' := (9, 0)) hc h.1.1 h.cc
  have hA := h.run2 a3.d (zFs.rfl (P := P))
  obtain ⟨B, b1, b2, b3⟩ := e60 (n := n) (m := m) (d := (9, 0)) hA.1.1
  have fB : zFd M B := a3.d.trans (fun r y hr => b3 r y (by omega))
  have fD : zFd M (zu B 65 11 0) := fB.zu (by omega)
  obtain ⟨D, d1, d2, d3⟩ := e23_l (n := n) (m := m) (zsT (P 179)).toNat 0 (zu B 65 11 0) (by omega) (h.run2 fD zFs.rfl) (a2.of (by rw [zun2 (by omega), b3 _ _ (by omega)]) (fun s => by rw [zun (by omega), zun (by omega), b3 _ _ (by omega), b3 _ _ (by omega)]; exact ⟨rfl, rfl⟩)) (fun a x0 x1 i i0 i1 => by
      have := hc a x0 x1
      rw [zun (by omega), b2 a x0 x1 i i0 (by omega)]
      exact hA.kk a x0 x1 i i0 i1) ⟨zus, fun f hf _ => by omega⟩
  rw [Nat.zero_add] at d2
  refine ⟨D, ?_, d2, fD.trans d3⟩
  have d1' : zex 23 10 [] [(2, 65), (0, 0)] (zu B 65 11 0) (zKs, n, m) = some ((9, 0), D, (zKs, n, m)) := d1
  simp (disch := omega) only [q23_0, a1, b1, d1', zk_27, zk_65, zp_65_0 hA.1.1, zg_pos, ↓reduceIte, Int.reduceEq, Int.reduceLE, Int.reduceLT, Int.reduceAdd, Int.reduceSub, Int.reduceMul, Int.reduceNeg, zg_T, zbI_ok, zbL_ok, zbN_ok, zite1, zite2, zite3, zem, Int.cast_ofNat_Int, and_self, and_true, true_and, or_true, true_or, or_self, ite_not, if_true, if_false, not_true_eq_false, not_false_eq_true]
theorem e204_l {q : Int} {M P0 : zM} {n m : Nat} (h : zRel q M P0) : ∀ (z f : Nat) (P : zM), ((f + z : Nat) : Int) = zsT (P0 179) → zFs P0 P → ∃ P', zex 204 9 [] [(2, 178), (0, zct (zA1 P0) f), (0, (f : Int))] P (zKs, n, m) = some ((0, zct (zA1 P0) (f + z)), P', (zKs, n, m)) ∧ zFs P P'
  | 0, f, P, hz, fs => by
    have hc : zCk (P0 179) := h.cle
    have e1 := e201 (n := n) (m := m) (fs.pr h.1.2) hc (fun a _ _ => fs _ _ (by omega))
    exact ⟨P, by rw [q204_9, zg_pos (zk_178 n m), e1, zbI_ok, if_pos (by omega)]; rfl, zFs.rfl⟩
  | z + 1, f, P, hz, fs => by
    have hc : zCk (P0 179) := h.cle
    have hT := zsT_le hc
    have e1 := e201 (n := n) (m := m) (fs.pr h.1.2) hc (fun a _ _ => fs _ _ (by omega))
    obtain ⟨A, w, a1, a2, a3⟩ := e203 (n := n) (m := m) (s := (f : Int)) (t := (f : Int)) h fs (by omega) (by omega)
    rw [zA1_2] at a3
    obtain ⟨B, b1, b2⟩ := e204_l (n := n) (m := m) h z (f + 1) A (by omega) (fs.trans a2)
    have ct := zct_le (A := zA1 P0) f
    refine ⟨B, ?_, a2.trans b2⟩
    rw [show f + (z + 1) = f + 1 + z by omega, ← b1, q204_9, zg_pos (zk_178 n m), e1, zbI_ok, if_neg (by omega), zg_pos (zk_178 n m), a1, zbI_ok]
    rcases a3 with ⟨rfl, a3⟩ | ⟨rfl, a3⟩
    · rw [if_neg (by omega), q204_22, zg_pos (by unfold zI; omega), zg_pos (by unfold zI; omega), zct_y a3]
      rfl
    · rw [if_pos rfl, q204_22, zg_pos (by unfold zI; omega), zg_pos (by unfold zI; omega), zct_n a3, Int.add_zero]
      rfl
theorem o_slips {q : Int} {M P : zM} (h : zRel q M P) (n m : Nat) : zOpn q 119 204 [] [(9, 0), (9, 0)] M P n m := by
  obtain ⟨⟨r0, r1⟩, rc, rh, rp, rb, rs, rw0, rx, ro, rk, rt, rr⟩ := id h
  obtain ⟨⟨a1, a2, a3⟩, ⟨b1, b2, b3⟩, c1, c2, c3⟩ := zcnt rc
  have k6 := e6 (d := (9, 0)) (d' := (9, 0)) (zCa2 r0 n m) (by simp only [Int.reduceAdd]; omega) (by simp only [Int.reduceAdd]; omega) (by simp only [Int.reduceAdd]; omega)
  rw [zga_un rc] at k6
  have l6 := e160 (n := n) (m := m) (d := (9, 0)) (d' := (9, 0)) (d'' := (9, 0)) r1 ⟨a2, a3⟩ ⟨b2, b3⟩ ⟨c2, c3⟩
  by_cases hz : zun0 P ≤ 0
  · have hT := zsT_le (c := P 179) h.cle
    obtain ⟨M1, m1, m2, m3⟩ := e23 (n := n) (m := m) h
    obtain ⟨P1, p1, p2⟩ := e204_l (n := n) (m := m) h (zsT (P 179)).toNat 0 P (by omega) zFs.rfl
    rw [Nat.zero_add] at p1
    have p1' : zex 204 9 [] [(2, 178), (0, 0), (0, 0)] P (zKs, n, m) = some ((0, zct (zA1 P) (zsT (P 179)).toNat), P1, (zKs, n, m)) := p1
    refine ⟨zct (zA1 P) (zsT (P 179)).toNat, M1, P1, ?_, fun r y hr => by rw [m3 _ _ (by omega)], ?_, fun r y hr => by rw [p2 _ _ (by omega)], h.run2 m3 p2⟩
    · simp (disch := omega) only [q119_0, k6, hz, m1, m2.1, zk_1, zk_2, zk_65, zp_1_0 r0, zp_1_7 r0, zp_1_7 (m3.pc r0), zg_pos, ↓reduceIte, Int.reduceEq, Int.reduceLE, Int.reduceLT, Int.reduceAdd, Int.reduceSub, Int.reduceMul, Int.reduceNeg, zg_T, zbI_ok, zbL_ok, zbN_ok, zite1, zite2, zite3, zem, Int.cast_ofNat_Int, and_self, and_true, true_and, or_true, true_or, or_self, ite_not, if_true, if_false, not_true_eq_false, not_false_eq_true]
    · simp (disch := omega) only [q204_0, l6, hz, p1', zk_178, zg_pos, ↓reduceIte, Int.reduceEq, Int.reduceLE, Int.reduceLT, Int.reduceAdd, Int.reduceSub, Int.reduceMul, Int.reduceNeg, zg_T, zbI_ok, zbL_ok, zbN_ok, zite1, zite2, zite3, zem, Int.cast_ofNat_Int, and_self, and_true, true_and, or_true, true_or, or_self, ite_not, if_true, if_false, not_true_eq_false, not_false_eq_true]
  · refine ⟨-3, M, P, ?_, zCf.rfl, ?_, zRf.rfl, h⟩
    · simp (disch := omega) only [q119_0, k6, hz, zk_1, zk_2, zp_1_0 r0, zg_pos, ↓reduceIte, Int.reduceEq, Int.reduceLE, Int.reduceLT, Int.reduceAdd, Int.reduceSub, Int.reduceMul, Int.reduceNeg, zg_T, zbI_ok, zbL_ok, zbN_ok, zite1, zite2, zite3, zem, Int.cast_ofNat_Int, and_self, and_true, true_and, or_true, true_or, or_self, ite_not, if_true, if_false, not_true_eq_false, not_false_eq_true]
    · simp (disch := omega) only [q204_0, l6, hz, zk_178, zg_pos, ↓reduceIte, Int.reduceEq, Int.reduceLE, Int.reduceLT, Int.reduceAdd, Int.reduceSub, Int.reduceMul, Int.reduceNeg, zg_T, zbI_ok, zbL_ok, zbN_ok, zite1, zite2, zite3, zem, Int.cast_ofNat_Int, and_self, and_true, true_and, or_true, true_or, or_self, ite_not, if_true, if_false, not_true_eq_false, not_false_eq_true]
theorem e205_l {q i : Int} {M P0 : zM} {n m : Nat} (h : zRel q M P0) : ∀ (z f : Nat) (P : zM), ((f + z : Nat) : Int) = zsT (P0 179) → zFs P0 P → ∃ P' v, zex 205 13 [] [(2, 178), (0, i), (0, zct (zA1 P0) f), (0, (f : Int))] P (zKs, n, m) = some ((0, v), P', (zKs, n, m)) ∧ zFs P P' ∧ ((∃ g : Nat, g < f + z ∧ zA1 P0 g ∧ zct (zA1 P0) g = i ∧ v = zVs P0 g) ∨ (v = -1 ∧ ∀ g : Nat, f ≤ g → g < f + z → zA1 P0 g → zct (zA1 P0) g ≠ i))
  | 0, f, P, hz, fs => by
    have hc : zCk (P0 179) := h.cle
    have e1 := e201 (n := n) (m := m) (fs.pr h.1.2) hc (fun a _ _ => fs _ _ (by omega))
    exact ⟨P, -1, by rw [q205_13, zg_pos (zk_178 n m), e1, zbI_ok, if_pos (by omega)], zFs.rfl, .inr ⟨rfl, fun g g0 g1 => by omega⟩⟩
  | z + 1, f, P, hz, fs => by
    have hc : zCk (P0 179) := h.cle
    have hT := zsT_le hc
    have e1 := e201 (n := n) (m := m) (fs.pr h.1.2) hc (fun a _ _ => fs _ _ (by omega))
    obtain ⟨A, w, a1, a2, a3⟩ := e203 (n := n) (m := m) (s := (f : Int)) (t := (f : Int)) h fs (by omega) (by omega)
    rw [zA1_2] at a3
    have fA := fs.trans a2
    have ct := zct_le (A := zA1 P0) f
    have g1 := e202 (P := A) (n := n) (m := m) (s := (f : Int)) (d := (9, 0)) (d' := (9, 0)) (fA.pr h.1.2) hc (fun a _ _ => fA _ _ (by omega)) (by omega)
    obtain ⟨x1, x2, x3, x4⟩ := zx_ok hc (s := (f : Int)) (by omega)
    have s : zex 205 13 [] [(2, 178), (0, i), (0, zct (zA1 P0) f), (0, (f : Int))] P (zKs, n, m) = if w = 0 then zex 205 40 [] [(2, 178), (0, i), (0, zct (zA1 P0) f), (0, (f : Int))] A (zKs, n, m) else if zct (zA1 P0) f = i then some ((0, zVs P0 f), A, (zKs, n, m)) else zex 205 40 [] [(2, 178), (0, i), (0, zct (zA1 P0) f + 1), (0, (f : Int))] A (zKs, n, m) := by
      rw [q205_13, zg_pos (zk_178 n m), e1, zbI_ok, if_neg (by omega), zg_pos (zk_178 n m), a1, zbI_ok, zg_pos (zk_178 n m), g1, zbI_ok, ztd_p (by omega), zg_pos (by omega), zg_pos (by unfold zI; omega), zg_pos (zk_178 n m), g1, zbI_ok, ztm_p (by omega), zg_pos (by omega), zg_pos (by unfold zI; omega), zg_pos (by unfold zI; omega)]
      have e2 : 100 * ((40 * zxa (P0 179) f + zxp (P0 179) f) / 40) + (40 * zxa (P0 179) f + zxp (P0 179) f) % 40 = zVs P0 f := by
        unfold zVs
        omega
      rw [e2]
    obtain ⟨B, v, b1, b2, b3⟩ := e205_l (n := n) (m := m) (i := i) h z (f + 1) A (by omega) fA
    rw [show f + 1 + z = f + (z + 1) by omega] at b3
    rcases a3 with ⟨rfl, a3⟩ | ⟨rfl, a3⟩
    · rw [if_neg (by omega)] at s
      by_cases e : zct (zA1 P0) f = i
      · rw [if_pos e] at s
        exact ⟨A, _, s, a2, .inl ⟨f, by omega, a3, e, rfl⟩⟩
      · rw [if_neg e] at s
        rw [zct_y a3] at b1
        refine ⟨B, v, ?_, a2.trans b2, b3.imp_right (fun ⟨x1, x2⟩ => ⟨x1, fun g g0 g1 g2 => ?_⟩)⟩
        · rw [s, q205_40, zg_pos (by unfold zI; omega)]
          exact b1
        · by_cases eg : g = f
          · subst eg; exact e
          · exact x2 g (by omega) g1 g2
    · rw [if_pos rfl] at s
      rw [zct_n a3] at b1
      refine ⟨B, v, ?_, a2.trans b2, b3.imp_right (fun ⟨x1, x2⟩ => ⟨x1, fun g g0 g1 g2 => ?_⟩)⟩
      · rw [s, q205_40, zg_pos (by unfold zI; omega)]
        exact b1
      · by_cases eg : g = f
        · subst eg; exact absurd g2 a3
        · exact x2 g (by omega) g1 g2
theorem o_slip {q : Int} {M P : zM} (h : zRel q M P) (n m : Nat) (i : Int) : zOpn q 120 205 [(0, i)] [(0, i), (9, 0), (9, 0)] M P n m := by
  obtain ⟨⟨r0, r1⟩, rc, rh, rp, rb, rs, rw0, rx, ro, rk, rt, rr⟩ := id h
  obtain ⟨⟨a1, a2, a3⟩, ⟨b1, b2, b3⟩, c1, c2, c3⟩ := zcnt rc
  have k6 := e6 (d := (9, 0)) (d' := (9, 0)) (zCa2 r0 n m) (by simp only [Int.reduceAdd]; omega) (by simp only [Int.reduceAdd]; omega) (by simp only [Int.reduceAdd]; omega)
  rw [zga_un rc] at k6
  have l6 := e160 (n := n) (m := m) (d := (9, 0)) (d' := (9, 0)) (d'' := (9, 0)) r1 ⟨a2, a3⟩ ⟨b2, b3⟩ ⟨c2, c3⟩
  by_cases hi : 0 ≤ i
  · by_cases hz : zun0 P ≤ 0
    · have hT := zsT_le (c := P 179) h.cle
      obtain ⟨M1, m1, m2, m3⟩ := e23 (n := n) (m := m) h
      obtain ⟨P1, v, p1, p2, p3⟩ := e205_l (n := n) (m := m) (i := i) h (zsT (P 179)).toNat 0 P (by omega) zFs.rfl
      rw [Nat.zero_add] at p3
      have p1' : zex 205 13 [] [(2, 178), (0, i), (0, 0), (0, 0)] P (zKs, n, m) = some ((0, v), P1, (zKs, n, m)) := p1
      have ct := zct_le (A := zA1 P) (zsT (P 179)).toNat
      have k1 := m3.pc r0
      have e19' := e19 (n := n) (m := m) k1 hi (by rw [m2.1]; omega)
      have hv : (if i < M1 65 11 then M1 74 i else -1) = v := by
        rw [m2.1]
        rcases p3 with ⟨g, g1, g2, g3, g4⟩ | ⟨g1, g2⟩
        · have := zct_lt g1 g2
          rw [if_pos (by omega), ← g3, m2.2 g g1 g2, g4]
        · by_cases e : i < zct (zA1 P) (zsT (P 179)).toNat
          · obtain ⟨f, f1, f2, f3⟩ := zct_ex (zsT (P 179)).toNat i hi e
            exact absurd f3 (g2 f (by omega) f1 f2)
          · rw [if_neg e, g1]
      rw [hv] at e19'
      refine ⟨v, M1, P1, ?_, fun r y hr => by rw [m3 _ _ (by omega)], ?_, fun r y hr => by rw [p2 _ _ (by omega)], h.run2 m3 p2⟩
      · simp (disch := omega) only [q120_0, k6, hi, hz, m1, e19', zk_1, zk_2, zk_65, zp_1_0 r0, zp_1_7 r0, zp_1_7 k1, zg_pos, ↓reduceIte, Int.reduceEq, Int.reduceLE, Int.reduceLT, Int.reduceAdd, Int.reduceSub, Int.reduceMul, Int.reduceNeg, zg_T, zbI_ok, zbL_ok, zbN_ok, zite1, zite2, zite3, zem, Int.cast_ofNat_Int, and_self, and_true, true_and, or_true, true_or, or_self, ite_not, if_true, if_false, not_true_eq_false, not_false_eq_true]
      · simp (disch := omega) only [q205_0, l6, hi, hz, p1', zk_178, zg_pos, ↓reduceIte, Int.reduceEq, Int.reduceLE, Int.reduceLT, Int.reduceAdd, Int.reduceSub, Int.reduceMul, Int.reduceNeg, zg_T, zbI_ok, zbL_ok, zbN_ok, zite1, zite2, zite3, zem, Int.cast_ofNat_Int, and_self, and_true, true_and, or_true, true_or, or_self, ite_not, if_true, if_false, not_true_eq_false, not_false_eq_true]
    · refine ⟨-3, M, P, ?_, zCf.rfl, ?_, zRf.rfl, h⟩
      · simp (disch := omega) only [q120_0, k6, hi, hz, zk_1, zk_2, zp_1_0 r0, zg_pos, ↓reduceIte, Int.reduceEq, Int.reduceLE, Int.reduceLT, Int.reduceAdd, Int.reduceSub, Int.reduceMul, Int.reduceNeg, zg_T, zbI_ok, zbL_ok, zbN_ok, zite1, zite2, zite3, zem, Int.cast_ofNat_Int, and_self, and_true, true_and, or_true, true_or, or_self, ite_not, if_true, if_false, not_true_eq_false, not_false_eq_true]
      · simp (disch := omega) only [q205_0, l6, hi, hz, zk_178, zg_pos, ↓reduceIte, Int.reduceEq, Int.reduceLE, Int.reduceLT, Int.reduceAdd, Int.reduceSub, Int.reduceMul, Int.reduceNeg, zg_T, zbI_ok, zbL_ok, zbN_ok, zite1, zite2, zite3, zem, Int.cast_ofNat_Int, and_self, and_true, true_and, or_true, true_or, or_self, ite_not, if_true, if_false, not_true_eq_false, not_false_eq_true]
  · refine ⟨-1, M, P, ?_, zCf.rfl, ?_, zRf.rfl, h⟩
    · simp only [q120_0, hi, ↓reduceIte, Int.reduceEq, Int.reduceLE, Int.reduceLT, Int.reduceAdd, Int.reduceSub, Int.reduceMul, Int.reduceNeg, zg_T, zbI_ok, zbL_ok, zbN_ok, zite1, zite2, zite3, zem, Int.cast_ofNat_Int, and_self, and_true, true_and, or_true, true_or, or_self, ite_not, if_true, if_false, not_true_eq_false, not_false_eq_true]
    · simp only [q205_0, hi, ↓reduceIte, Int.reduceEq, Int.reduceLE, Int.reduceLT, Int.reduceAdd, Int.reduceSub, Int.reduceMul, Int.reduceNeg, zg_T, zbI_ok, zbL_ok, zbN_ok, zite1, zite2, zite3, zem, Int.cast_ofNat_Int, and_self, and_true, true_and, or_true, true_or, or_self, ite_not, if_true, if_false, not_true_eq_false, not_false_eq_true]
