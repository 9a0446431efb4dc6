/-! SHOW: one unit -/
def zFj (M M' : zM) : Prop := ∀ r y, (r < 27 ∨ (r = 27 ∧ y ≠ 6 ∧ y ≠ 8) ∨ r = 29 ∨ (r = 36 ∧ (y = 1 ∨ y = 3 ∨ y = 5)) ∨ r = 38 ∨ r = 43 ∨ 46 < r) → M' r y = M r y
def zFh (P P' : zM) : Prop := ∀ r y, (r < 178 ∨ (r = 178 ∧ y ≠ 26 ∧ y ≠ 28 ∧ y ≠ 33 ∧ (y < 52 ∨ 58 < y)) ∨ (178 < r ∧ r < 193) ∨ (200 < r ∧ r < 212) ∨ 215 < r) → P' r y = P r y
theorem zFj.trans {M M' M'' : zM} (h : zFj M M') (h' : zFj M' M'') : zFj M M'' := fun r y hr => (h' r y hr).trans (h r y hr)
theorem zFj.rfl {M : zM} : zFj M M := fun _ _ _ => Eq.refl _
theorem zFh.trans {P P' P'' : zM} (h : zFh P P') (h' : zFh P' P'') : zFh P P'' := fun r y hr => (h' r y hr).trans (h r y hr)
theorem zFh.rfl {P : zM} : zFh P P := fun _ _ _ => Eq.refl _
theorem zFj.pc {M M' : zM} (h : zFj M M') (r0 : zPC M) : zPC M' := zPC_t (fun r y => decide (r = 28) || decide (30 ≤ r ∧ r ≤ 35) || decide (r = 27 ∧ (y = 6 ∨ y = 8)) || decide (r = 36 ∧ (y ≠ 1 ∧ y ≠ 3 ∧ y ≠ 5)) || decide (r = 37 ∨ (39 ≤ r ∧ r ≤ 42) ∨ (44 ≤ r ∧ r ≤ 46))) (by decide +kernel) r0 (fun r y hr => h r y (by simp at hr; omega))
theorem zFh.pr {P P' : zM} (h : zFh P P') (r1 : zPR P) : zPR P' := zPR_t (fun r y => decide (r = 178 ∧ (y = 26 ∨ y = 28 ∨ y = 33 ∨ (52 ≤ y ∧ y ≤ 58))) || decide ((193 ≤ r ∧ r ≤ 200) ∨ (212 ≤ r ∧ r ≤ 215))) (by decide +kernel) r1 (fun r y hr => h r y (by simp at hr; omega))
theorem zFj.cc {M M' : zM} {c l wn : Int → Int} (h : zFj M M') (hC : zCC M c l wn) : zCC M' c l wn := fun a h0 h2 => by
  obtain ⟨c1, c2, c3⟩ := hC a h0 h2
  rw [h _ _ (by omega)]
  exact ⟨c1, c2, fun i i0 i1 => by rw [h _ _ (by omega), h _ _ (by omega)]; exact c3 i i0 i1⟩
theorem zFc.j {M M' : zM} (h : zFc M M') : zFj M M' := fun r y hr => h r y (by omega)
theorem zFs.h {P P' : zM} (h : zFs P P') : zFh P P' := fun r y hr => h r y (by omega)
theorem zFu.h {hs : Int} {P P' : zM} (h : zFu hs P P') : zFh P P' := fun r y hr => h r y (by omega)
theorem zFh.cr {P P' : zM} {c l wn : Int → Int} (h : zFh P P') (hC : zCR P c l wn) : zCR P' c l wn := ⟨fun a h0 h2 => by rw [h _ _ (by omega)]; exact hC.1 a h0 h2, fun i i0 i1 => by rw [h _ _ (by omega), h _ _ (by omega)]; exact hC.2 i i0 i1⟩
/-- the class's slips -/
def zWC (M : zM) (w : zW) : Prop := M 36 6 = w.1 ∧ ∀ i, 0 ≤ i → i < w.1 → i < 20 → M 44 i = w.2.1 i ∧ M 45 i = w.2.2.1 i ∧ M 46 i = w.2.2.2 i
theorem zWC.of {M M' : zM} {w : zW} (h : zWC M w) (h1 : M' 36 6 = M 36 6) (h3 : ∀ r y, 44 ≤ r → r ≤ 46 → M' r y = M r y) : zWC M' w := by
  obtain ⟨w1, w3⟩ := h
  refine ⟨by rw [h1, w1], fun i i0 i1 i2 => ?_⟩
  rw [h3 _ _ (by omega) (by omega), h3 _ _ (by omega) (by omega), h3 _ _ (by omega) (by omega)]
  exact w3 i i0 i1 i2
theorem zKK.of {M M' : zM} {c k : Int → Int} (h : zKK M c k) (h1 : ∀ r y, 30 ≤ r → r ≤ 32 → M' r y = M r y) : zKK M' c k := fun a a0 a2 i i0 i1 => by
  rw [h1 _ _ (by omega) (by omega)]
  exact h a a0 a2 i i0 i1
theorem e73 {M : zM} {n m : Nat} {c l wn p g : Int → Int} {u a : Int} {s : (Int → Int) × zW} {d d' : zV} (r0 : zPC M) (hC : zCC M c l wn) (hwn : ∀ a, 0 ≤ a → a ≤ 2 → ∀ i, 0 ≤ i → i < c a → wn (40 * a + i) = 0 ∨ wn (40 * a + i) = 1) (ha : 0 ≤ a ∧ a ≤ 2) (hp : 0 ≤ p a ∧ p a ≤ c a) (h33 : M 33 a = zsa c l p g a) (h35 : M 35 a = if p a < c a ∧ g a + 1 = l (40 * a + p a) then 1 else 0) (hu : M 27 6 = u) (hK : zKK M c s.1) (hW : zWC M s.2) (hb : 0 ≤ s.2.1 ∧ s.2.1 ≤ 1000000) : ∃ M', zex 73 0 [] [(2, 36), (2, 27), (0, a), d, d'] M (zKs, n, m) = some ((9, 0), M', (zKs, n, m)) ∧ zKK M' c (zkw c l wn p g 1 u s a).1 ∧ zWC M' (zkw c l wn p g 1 u s a).2 ∧ ∀ r y, ((r < 30 ∨ 32 < r) ∧ (r < 44 ∨ 46 < r) ∧ (r ≠ 36 ∨ y ≠ 6)) → M' r y = M r y := by
  obtain ⟨c1, c2, c3⟩ := hC a ha.1 ha.2
  have hcd := zCd3 r0 n m ha
  have z9 := e9 (M := M) (i := p a + 1) (zrk3 n m ha)
  rw [c1] at z9
  have kr := hcd.2.2.2.2.1
  have kp := hcd.2.2.2.2.2.2.2
  rw [show 5 + 4 * a + 3 = 8 + 4 * a by omega] at kr kp
  by_cases f : p a < c a ∧ g a + 1 = l (40 * a + p a)
  · have h33' : M 33 a = p a + 1 := by rw [h33]; unfold zsa; rw [if_pos f]
    rw [if_pos f] at h35
    by_cases f2 : p a + 1 < c a
    · rw [if_pos (by omega)] at z9
      have wv := (c3 (p a) hp.1 f.1).2
      by_cases f3 : wn (40 * a + p a) = 1
      · have hz : zkw c l wn p g 1 u s a = (fun i => if i = 40 * a + p a + 1 then 2 else s.1 i, zwa s.2 a (p a) u) := if_pos ⟨by omega, f.1, f.2, f3, f2⟩
        have w1 := hW.1
        have s1 : zex 73 0 [] [(2, 36), (2, 27), (0, a), d, d'] M (zKs, n, m) = zex 73 38 [] [(2, 36), (2, 27), (0, a), (2, 5 + 4 * a), (0, p a + 1)] (zu M (30 + a) (p a + 1) 2) (zKs, n, m) := by
          have nl : ¬ p a + 1 < 1 := by omega
          rw [q73_0]
          simp (disch := omega) only [h33', h35, z9, wv, f3, nl, kr, kp, show p a + 1 - 1 = p a by omega, zrp3 r0 ha, zrk3 n m ha, zrp29 r0 ha, zrk29 n m ha, zk_2, zk_3, zk_27, zk_29, zk_33, zk_35, zp_27_0 r0, zp_27_3 r0, zp_27_4 r0, zp_27_7 r0, zp_2_0 r0, zg_pos, zI, ↓reduceIte, Int.reduceEq, Int.reduceLE, Int.reduceLT, Int.reduceAdd, Int.reduceSub, Int.reduceMul, Int.reduceNeg, zg_T, zbI_ok, zbL_ok, zbN_ok, zite1, zite2, zite3, zem, Int.cast_ofNat_Int, and_self, and_true, true_and, or_true, true_or, or_self, ite_not, if_true, if_false, not_true_eq_false, not_false_eq_true]
        have rA : zPC (zu M (30 + a) (p a + 1) 2) := zFj.pc (fun r y hr => zun (by omega)) r0
        have kK : zKK (zu M (30 + a) (p a + 1) 2) c (fun i => if i = 40 * a + p a + 1 then 2 else s.1 i) := fun b b0 b2 i i0 i1 => by
          have hcb := (hC b b0 b2).2.1
          dsimp only
          by_cases e : b = a ∧ i = p a + 1
          · rw [if_pos (by omega), e.1, e.2, zus]
          · rw [if_neg (by omega), zu_at, if_neg (by omega)]
            exact hK b b0 b2 i i0 i1
        rw [hz]
        by_cases f4 : 20 ≤ s.2.1
        · refine ⟨zu (zu M (30 + a) (p a + 1) 2) 36 6 (s.2.1 + 1), ?_, kK.of (fun r y _ _ => zun (by omega)), ⟨zus, fun i i0 i1 i2 => ?_⟩, fun r y hr => ?_⟩
          · rw [s1]
            simp (disch := omega) only [q73_38, q73_69, q73_75, w1, f4, zk_36, zun, zg_pos, zI, ↓reduceIte, Int.reduceEq, Int.reduceLE, Int.reduceLT, Int.reduceAdd, Int.reduceSub, Int.reduceMul, Int.reduceNeg, zg_T, zbI_ok, zbL_ok, zbN_ok, zite1, zite2, zite3, zem, Int.cast_ofNat_Int, and_self, and_true, true_and, or_true, true_or, or_self, ite_not, if_true, if_false, not_true_eq_false, not_false_eq_true]
          · have i1' : i < s.2.1 + 1 := i1
            have ne : ¬ i = s.2.1 := by omega
            unfold zwa
            dsimp only
            rw [if_neg ne, if_neg ne, if_neg ne, zun (by omega), zun (by omega), zun (by omega), zun (by omega), zun (by omega), zun (by omega)]
            exact hW.2 i i0 (by omega) i2
          · by_cases e : r = 36
            · rw [zun2 (by omega), zun (by omega)]
            · rw [zun e, zun (by omega)]
        · refine ⟨zu (zu (zu (zu (zu M (30 + a) (p a + 1) 2) 44 s.2.1 a) 45 s.2.1 (p a)) 46 s.2.1 u) 36 6 (s.2.1 + 1), ?_, kK.of (fun r y _ _ => by rw [zun (by omega), zun (by omega), zun (by omega), zun (by omega)]), ⟨zus, fun i i0 i1 i2 => ?_⟩, fun r y hr => ?_⟩
          · rw [s1]
            simp (disch := omega) only [q73_38, q73_50, q73_60, q73_69, q73_75, w1, f4, hu, show p a + 1 - 1 = p a by omega, zk_27, zk_36, zk_43, zk_44, zk_45, zk_46, zp_36_5 rA, zp_36_5 r0, zp_43_0 r0, zp_43_1 r0, zp_43_2 r0, zun, zg_pos, zI, ↓reduceIte, Int.reduceEq, Int.reduceLE, Int.reduceLT, Int.reduceAdd, Int.reduceSub, Int.reduceMul, Int.reduceNeg, zg_T, zbI_ok, zbL_ok, zbN_ok, zite1, zite2, zite3, zem, Int.cast_ofNat_Int, and_self, and_true, true_and, or_true, true_or, or_self, ite_not, if_true, if_false, not_true_eq_false, not_false_eq_true]
          · have i1' : i < s.2.1 + 1 := i1
            unfold zwa
            dsimp only
            by_cases ne : i = s.2.1
            · rw [if_pos ne, if_pos ne, if_pos ne, ne]
              simp (disch := omega) only [zun, zus]
              exact ⟨trivial, trivial, trivial⟩
            · rw [if_neg ne, if_neg ne, if_neg ne]
              simp (disch := omega) only [zun, zun2]
              exact hW.2 i i0 (by omega) i2
          · by_cases e : r = 36
            · rw [zun2 (by omega), zun (by omega), zun (by omega), zun (by omega), zun (by omega)]
            · rw [zun e, zun (by omega), zun (by omega), zun (by omega), zun (by omega)]
      · have f5 : wn (40 * a + p a) = 0 := (hwn a ha.1 ha.2 _ hp.1 f.1).resolve_right f3
        have hz : zkw c l wn p g 1 u s a = s := if_neg (fun x => f3 x.2.2.2.1)
        rw [hz]
        refine ⟨M, ?_, hK, hW, fun _ _ _ => rfl⟩
        have nl : ¬ p a + 1 < 1 := by omega
        rw [q73_0]
        simp (disch := omega) only [q73_30, h33', h35, z9, wv, f5, nl, kr, kp, show p a + 1 - 1 = p a by omega, zrp3 r0 ha, zrk3 n m ha, zk_2, zk_3, zk_27, zk_33, zk_35, zp_27_0 r0, zp_27_4 r0, zp_27_7 r0, zp_2_0 r0, zg_pos, zI, ↓reduceIte, Int.reduceEq, Int.reduceLE, Int.reduceLT, Int.reduceAdd, Int.reduceSub, Int.reduceMul, Int.reduceNeg, zg_T, zbI_ok, zbL_ok, zbN_ok, zite1, zite2, zite3, zem, Int.cast_ofNat_Int, and_self, and_true, true_and, or_true, true_or, or_self, ite_not, if_true, if_false, not_true_eq_false, not_false_eq_true]
    · rw [if_neg (by omega)] at z9
      have hz : zkw c l wn p g 1 u s a = s := if_neg (fun x => f2 x.2.2.2.2)
      rw [hz]
      refine ⟨M, ?_, hK, hW, fun _ _ _ => rfl⟩
      have nl : ¬ p a + 1 < 1 := by omega
      rw [q73_0]
      simp (disch := omega) only [q73_30, h33', h35, z9, nl, zrp3 r0 ha, zrk3 n m ha, zk_2, zk_3, zk_27, zk_33, zk_35, zp_27_0 r0, zp_27_4 r0, zp_27_7 r0, zp_2_0 r0, zg_pos, zI, ↓reduceIte, Int.reduceEq, Int.reduceLE, Int.reduceLT, Int.reduceAdd, Int.reduceSub, Int.reduceMul, Int.reduceNeg, zg_T, zbI_ok, zbL_ok, zbN_ok, zite1, zite2, zite3, zem, Int.cast_ofNat_Int, and_self, and_true, true_and, or_true, true_or, or_self, ite_not, if_true, if_false, not_true_eq_false, not_false_eq_true]
  · rw [if_neg f] at h35
    have hz : zkw c l wn p g 1 u s a = s := if_neg (fun x => f ⟨x.2.1, x.2.2.1⟩)
    rw [hz]
    refine ⟨M, ?_, hK, hW, fun _ _ _ => rfl⟩
    rw [q73_0]
    simp (disch := omega) only [q73_30, h35, zrp3 r0 ha, zrk3 n m ha, zk_2, zk_3, zk_27, zk_33, zk_35, zp_27_0 r0, zp_27_4 r0, zp_27_7 r0, zp_2_0 r0, zg_pos, zI, ↓reduceIte, Int.reduceEq, Int.reduceLE, Int.reduceLT, Int.reduceAdd, Int.reduceSub, Int.reduceMul, Int.reduceNeg, zg_T, zbI_ok, zbL_ok, zbN_ok, zite1, zite2, zite3, zem, Int.cast_ofNat_Int, and_self, and_true, true_and, or_true, true_or, or_self, ite_not, if_true, if_false, not_true_eq_false, not_false_eq_true]
/-! notes -/
def zNt (M P : zM) (N : Int) : Prop := (M 36 4 = N ∧ P 178 28 = N) ∧ (0 ≤ N ∧ N ≤ 60) ∧ ∀ i, 0 ≤ i → i < N → M 39 i = P 194 i ∧ M 40 i = P 195 i ∧ M 41 i = P 196 i ∧ M 42 i = P 197 i
theorem sh_note {M P : zM} {n m : Nat} {N u s x y t : Int} {d d' : zV} (r0 : zPC M) (r1 : zPR P) (hp : zRp M 2 (P 178 6) (P 183) (P 184)) (hN : zNt M P N) (h1 : M 27 6 = u ∧ M 27 8 = t ∧ M 28 0 = x ∧ M 28 1 = y ∧ M 28 4 = s) (h2 : P 178 57 = u ∧ P 215 2 = t ∧ P 178 52 = x ∧ P 178 53 = y ∧ P 178 56 = s) (hx : zI x) (hy : zI y) : ∃ M' P' N', zex 72 0 [] [(2, 36), (2, 27), d] M (zKs, n, m) = some ((9, 0), M', (zKs, n, m)) ∧ zex 168 0 [] [(2, 178), d'] P (zKs, n, m) = some ((9, 0), P', (zKs, n, m)) ∧ zNt M' P' N' ∧ (∀ r y, (r < 39 ∨ 42 < r) ∧ (r ≠ 36 ∨ y ≠ 4) → M' r y = M r y) ∧ ∀ r y, (r < 194 ∨ 197 < r) ∧ (r ≠ 178 ∨ y ≠ 28) → P' r y = P r y := by
  obtain ⟨u1, u2, u3, u4, u5⟩ := h1
  obtain ⟨v1, v2, v3, v4, v5⟩ := h2
  obtain ⟨⟨n1, n2⟩, ⟨n3, n4⟩, n5⟩ := id hN
  obtain ⟨g1, g2, g3, g4, g5, g6⟩ := id hp
  simp only [Int.reduceAdd] at g4 g6
  by_cases ht : t = 0
  · refine ⟨M, P, N, ?_, ?_, hN, fun _ _ _ => rfl, fun _ _ _ => rfl⟩
    · simp (disch := omega) only [q72_0, q72_11, q72_18, u2, ht, zk_27, zg_pos, ↓reduceIte, Int.reduceEq, Int.reduceLE, Int.reduceLT, Int.reduceAdd, Int.reduceSub, Int.reduceMul, Int.reduceNeg, zg_T, zbI_ok, zbL_ok, zbN_ok, zite1, zite2, zite3, zem, Int.cast_ofNat_Int, and_self, and_true, true_and, or_true, true_or, or_self, ite_not, if_true, if_false, not_true_eq_false, not_false_eq_true]
    · simp (disch := omega) only [q168_0, q168_11, q168_57, v2, ht, zk_178, zk_215, zp_178_51 r1, zg_pos, ↓reduceIte, Int.reduceEq, Int.reduceLE, Int.reduceLT, Int.reduceAdd, Int.reduceSub, Int.reduceMul, Int.reduceNeg, zg_T, zbI_ok, zbL_ok, zbN_ok, zite1, zite2, zite3, zem, Int.cast_ofNat_Int, and_self, and_true, true_and, or_true, true_or, or_self, ite_not, if_true, if_false, not_true_eq_false, not_false_eq_true]
  · obtain ⟨v, e1, e2⟩ := e151_l (n := n) (m := m) (s := s) r1 g3 (P 178 6).toNat 0 (by omega) (by omega)
    have k3 := e3 (s := s) (zCa2 r0 n m)
    simp only [Int.reduceAdd] at k3
    have e1' : zex 151 0 [] [(2, 178), (0, s), (9, 0)] P (zKs, n, m) = some ((0, v), P, (zKs, n, m)) := by rw [q151_0]; exact e1
    have key : (v = -1 ∧ (if -400 ≤ s ∧ s ≤ 400 then M 4 (s + 400) else 0) = 0) ∨ ((0 ≤ v ∧ v < P 178 6) ∧ (if -400 ≤ s ∧ s ≤ 400 then M 4 (s + 400) else 0) = P 184 v ∧ P 184 v ≠ 0) := by
      rcases e2 with ⟨rfl, e2⟩ | ⟨e2, e3, e4⟩
      · refine .inl ⟨rfl, ?_⟩
        by_cases hs : -400 ≤ s ∧ s ≤ 400
        · rw [if_pos hs]
          exact Classical.byContradiction fun c => by
            obtain ⟨j, j1, j2, j3⟩ := g6 (s + 400) (by omega) (by omega) c
            exact e2 j j1 j2 (by omega)
        · rw [if_neg hs]
      · obtain ⟨j1, j2, j3, j4, j5⟩ := g4 v e2 e3
        rw [e4] at j1 j2 j5
        exact .inr ⟨⟨e2, e3⟩, by rw [if_pos ⟨j1, j2⟩, j5], by omega⟩
    rcases key with ⟨rfl, e⟩ | ⟨hv, e, e0⟩
    · rw [e] at k3
      refine ⟨M, P, N, ?_, ?_, hN, fun _ _ _ => rfl, fun _ _ _ => rfl⟩
      · simp (disch := omega) only [q72_0, q72_11, q72_18, u2, u5, ht, k3, zk_2, zk_27, zk_28, zp_27_0 r0, zp_27_2 r0, zg_pos, ↓reduceIte, Int.reduceEq, Int.reduceLE, Int.reduceLT, Int.reduceAdd, Int.reduceSub, Int.reduceMul, Int.reduceNeg, zg_T, zbI_ok, zbL_ok, zbN_ok, zite1, zite2, zite3, zem, Int.cast_ofNat_Int, and_self, and_true, true_and, or_true, true_or, or_self, ite_not, if_true, if_false, not_true_eq_false, not_false_eq_true]
      · simp (disch := omega) only [q168_0, q168_11, q168_57, v2, v5, ht, e1', zk_178, zk_215, zp_178_51 r1, zg_pos, ↓reduceIte, Int.reduceEq, Int.reduceLE, Int.reduceLT, Int.reduceAdd, Int.reduceSub, Int.reduceMul, Int.reduceNeg, zg_T, zbI_ok, zbL_ok, zbN_ok, zite1, zite2, zite3, zem, Int.cast_ofNat_Int, and_self, and_true, true_and, or_true, true_or, or_self, ite_not, if_true, if_false, not_true_eq_false, not_false_eq_true]
    · rw [e] at k3
      by_cases hf : N < 60
      · have hf2 : ¬ 60 ≤ N := by omega
        have nv : ¬ v = -1 := by omega
        have p1 : zex 72 0 [] [(2, 36), (2, 27), d] M (zKs, n, m) = zex 72 36 [] [(2, 36), (2, 27), (0, P 184 v)] (zu (zu M 39 N (P 184 v)) 40 N u) (zKs, n, m) := by
          simp (disch := omega) only [q72_0, q72_11, q72_27, u1, u2, u5, ht, k3, e0, n1, hf, zk_2, zk_27, zk_28, zk_36, zk_38, zk_39, zk_40, zp_27_0 r0, zp_27_2 r0, zp_36_3 r0, zp_38_0 r0, zp_38_1 r0, zun, zg_pos, zI, ↓reduceIte, Int.reduceEq, Int.reduceLE, Int.reduceLT, Int.reduceAdd, Int.reduceSub, Int.reduceMul, Int.reduceNeg, zg_T, zbI_ok, zbL_ok, zbN_ok, zite1, zite2, zite3, zem, Int.cast_ofNat_Int, and_self, and_true, true_and, or_true, true_or, or_self, ite_not, if_true, if_false, not_true_eq_false, not_false_eq_true]
        generalize hA : zu (zu M 39 N (P 184 v)) 40 N u = A at p1
        have mA : ∀ r y, (r < 39 ∨ 42 < r) → A r y = M r y := fun r y hr => by rw [← hA, zun (by omega), zun (by omega)]
        have rA : zPC A := zFj.pc (fun r y hr => mA r y (by omega)) r0
        have a1 := e53 (M := A) (zk_28 n m) (by rw [mA _ _ (by omega), u3]; exact hx)
        rw [mA _ _ (by omega), u3] at a1
        have p2 : zex 72 36 [] [(2, 36), (2, 27), (0, P 184 v)] A (zKs, n, m) = zex 72 46 [] [(2, 36), (2, 27), (0, P 184 v)] (zu A 41 N (x / 1000)) (zKs, n, m) := by
          simp (disch := omega) only [q72_36, a1, mA 36 4 (by omega), n1, zk_27, zk_28, zk_36, zk_38, zk_41, zp_27_2 rA, zp_36_3 rA, zp_38_2 rA, zg_pos, zI, ↓reduceIte, Int.reduceEq, Int.reduceLE, Int.reduceLT, Int.reduceAdd, Int.reduceSub, Int.reduceMul, Int.reduceNeg, zg_T, zbI_ok, zbL_ok, zbN_ok, zite1, zite2, zite3, zem, Int.cast_ofNat_Int, and_self, and_true, true_and, or_true, true_or, or_self, ite_not, if_true, if_false, not_true_eq_false, not_false_eq_true]
        generalize hB : zu A 41 N (x / 1000) = B at p2
        have mB : ∀ r y, (r < 39 ∨ 42 < r) → B r y = M r y := fun r y hr => by rw [← hB, zun (by omega), mA _ _ hr]
        have rB : zPC B := zFj.pc (fun r y hr => mB r y (by omega)) r0
        have a2 := e54 (M := B) (zk_28 n m) (by rw [mB _ _ (by omega), u4]; exact hy)
        rw [mB _ _ (by omega), u4] at a2
        have p3 : zex 72 46 [] [(2, 36), (2, 27), (0, P 184 v)] B (zKs, n, m) = some ((9, 0), zu (zu B 42 N (y / 1000)) 36 4 (N + 1), (zKs, n, m)) := by
          simp (disch := omega) only [q72_46, q72_56, q72_62, a2, mB 36 4 (by omega), n1, zk_27, zk_28, zk_36, zk_38, zk_42, zp_27_2 rB, zp_36_3 rB, zp_38_3 rB, zun, zg_pos, zI, ↓reduceIte, Int.reduceEq, Int.reduceLE, Int.reduceLT, Int.reduceAdd, Int.reduceSub, Int.reduceMul, Int.reduceNeg, zg_T, zbI_ok, zbL_ok, zbN_ok, zite1, zite2, zite3, zem, Int.cast_ofNat_Int, and_self, and_true, true_and, or_true, true_or, or_self, ite_not, if_true, if_false, not_true_eq_false, not_false_eq_true]
        have b0 : zex 168 0 [] [(2, 178), d'] P (zKs, n, m) = zex 168 35 [] [(2, 178), (0, v)] (zu (zu P 194 N (P 184 v)) 195 N u) (zKs, n, m) := by
          simp (disch := omega) only [q168_0, q168_11, q168_28, v1, v2, v5, ht, e1', nv, n2, hf2, zk_178, zk_184, zk_194, zk_195, zk_215, zp_178_51 r1, zp_178_29 r1, zp_178_30 r1, zp_178_8 r1, zun, zg_pos, zI, ↓reduceIte, Int.reduceEq, Int.reduceLE, Int.reduceLT, Int.reduceAdd, Int.reduceSub, Int.reduceMul, Int.reduceNeg, zg_T, zbI_ok, zbL_ok, zbN_ok, zite1, zite2, zite3, zem, Int.cast_ofNat_Int, and_self, and_true, true_and, or_true, true_or, or_self, ite_not, if_true, if_false, not_true_eq_false, not_false_eq_true]
        generalize hD : zu (zu P 194 N (P 184 v)) 195 N u = D at b0
        have mD : ∀ r y, (r < 194 ∨ 197 < r) → D r y = P r y := fun r y hr => by rw [← hD, zun (by omega), zun (by omega)]
        have rD : zPR D := zFh.pr (fun r y hr => mD r y (by omega)) r1
        have b1 := e166 x (9, 0) D (zKs, n, m) hx
        have b2 : zex 168 35 [] [(2, 178), (0, v)] D (zKs, n, m) = zex 168 43 [] [(2, 178), (0, v)] (zu D 196 N (x / 1000)) (zKs, n, m) := by
          simp (disch := omega) only [q168_35, mD 178 52 (by omega), v3, b1, mD 178 28 (by omega), n2, zk_178, zk_196, zp_178_31 rD, zg_pos, zI, ↓reduceIte, Int.reduceEq, Int.reduceLE, Int.reduceLT, Int.reduceAdd, Int.reduceSub, Int.reduceMul, Int.reduceNeg, zg_T, zbI_ok, zbL_ok, zbN_ok, zite1, zite2, zite3, zem, Int.cast_ofNat_Int, and_self, and_true, true_and, or_true, true_or, or_self, ite_not, if_true, if_false, not_true_eq_false, not_false_eq_true]
        generalize hE : zu D 196 N (x / 1000) = E at b2
        have mE : ∀ r y, (r < 194 ∨ 197 < r) → E r y = P r y := fun r y hr => by rw [← hE, zun (by omega), mD _ _ hr]
        have rE : zPR E := zFh.pr (fun r y hr => mE r y (by omega)) r1
        have b3 := e166 y (9, 0) E (zKs, n, m) hy
        have b4 : zex 168 43 [] [(2, 178), (0, v)] E (zKs, n, m) = some ((9, 0), zu (zu E 197 N (y / 1000)) 178 28 (N + 1), (zKs, n, m)) := by
          simp (disch := omega) only [q168_43, q168_51, q168_57, mE 178 53 (by omega), v4, b3, mE 178 28 (by omega), n2, zk_178, zk_197, zp_178_32 rE, zun, zg_pos, zI, ↓reduceIte, Int.reduceEq, Int.reduceLE, Int.reduceLT, Int.reduceAdd, Int.reduceSub, Int.reduceMul, Int.reduceNeg, zg_T, zbI_ok, zbL_ok, zbN_ok, zite1, zite2, zite3, zem, Int.cast_ofNat_Int, and_self, and_true, true_and, or_true, true_or, or_self, ite_not, if_true, if_false, not_true_eq_false, not_false_eq_true]
        refine ⟨_, _, N + 1, p1.trans (p2.trans p3), b0.trans (b2.trans b4), ⟨⟨zus, zus⟩, ⟨by omega, by omega⟩, fun i i0 i1 => ?_⟩, fun r y hr => ?_, fun r y hr => ?_⟩
        · rw [← hB, ← hA, ← hE, ← hD]
          by_cases e : i = N
          · subst e
            simp (disch := omega) only [zun, zus]
            exact ⟨trivial, trivial, trivial, trivial⟩
          · simp (disch := omega) only [zun, zun2]
            exact n5 i i0 (by omega)
        · by_cases e : r = 36
          · rw [zun2 (by omega), zun (by omega), mB _ _ (by omega)]
          · rw [zun e, zun (by omega), mB _ _ (by omega)]
        · by_cases e : r = 178
          · rw [zun2 (by omega), zun (by omega), mE _ _ (by omega)]
          · rw [zun e, zun (by omega), mE _ _ (by omega)]
      · have hf2 : 60 ≤ N := by omega
        have nv : ¬ v = -1 := by omega
        refine ⟨M, P, N, ?_, ?_, hN, fun _ _ _ => rfl, fun _ _ _ => rfl⟩
        · simp (disch := omega) only [q72_0, q72_11, q72_18, u2, u5, ht, k3, e0, n1, hf, zk_2, zk_27, zk_28, zk_36, zp_27_0 r0, zp_27_2 r0, zg_pos, ↓reduceIte, Int.reduceEq, Int.reduceLE, Int.reduceLT, Int.reduceAdd, Int.reduceSub, Int.reduceMul, Int.reduceNeg, zg_T, zbI_ok, zbL_ok, zbN_ok, zite1, zite2, zite3, zem, Int.cast_ofNat_Int, and_self, and_true, true_and, or_true, true_or, or_self, ite_not, if_true, if_false, not_true_eq_false, not_false_eq_true]
        · simp (disch := omega) only [q168_0, q168_11, q168_57, v2, v5, ht, e1', nv, n2, hf2, zk_178, zk_215, zp_178_51 r1, zg_pos, ↓reduceIte, Int.reduceEq, Int.reduceLE, Int.reduceLT, Int.reduceAdd, Int.reduceSub, Int.reduceMul, Int.reduceNeg, zg_T, zbI_ok, zbL_ok, zbN_ok, zite1, zite2, zite3, zem, Int.cast_ofNat_Int, and_self, and_true, true_and, or_true, true_or, or_self, ite_not, if_true, if_false, not_true_eq_false, not_false_eq_true]
