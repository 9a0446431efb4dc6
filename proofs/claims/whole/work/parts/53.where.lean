/-! WHERE AND MISS -/
/-- the data of a run out of the relation -/
theorem zRel.cc {q : Int} {M P : zM} (h : zRel q M P) : zCC M (P 179) (P 181) (P 182) := fun a h0 h2 => by
  obtain ⟨g1, g2, g3, g4⟩ := h.2.1 a h0 h2
  rw [show (2 : Int) + 3 + 4 * a = 5 + 4 * a by omega] at g1
  refine ⟨g1, ⟨g2, g3⟩, fun i i0 i1 => ?_⟩
  obtain ⟨f1, f2, f3, -⟩ := g4 i i0 i1
  rw [show (2 : Int) + 5 + 4 * a = 7 + 4 * a by omega] at f2
  rw [show (2 : Int) + 6 + 4 * a = 8 + 4 * a by omega] at f3
  exact ⟨f2, f3⟩
theorem zRel.kk {q : Int} {M P : zM} (h : zRel q M P) : ∀ a, 0 ≤ a → a ≤ 2 → ∀ i, 0 ≤ i → i < P 179 a → M (6 + 4 * a) i = P 180 (40 * a + i) := fun a h0 h2 i i0 i1 => by
  obtain ⟨g1, g2, g3, g4⟩ := h.2.1 a h0 h2
  obtain ⟨f1, -⟩ := g4 i i0 i1
  rw [show (2 : Int) + 4 + 4 * a = 6 + 4 * a by omega] at f1
  exact f1
theorem zRel.cr {q : Int} {M P : zM} (h : zRel q M P) : zCR P (P 179) (P 181) (P 182) := ⟨fun a h0 h2 => by
  obtain ⟨g1, g2, g3, g4⟩ := h.2.1 a h0 h2
  exact ⟨rfl, g2, g3⟩, fun i _ _ => ⟨rfl, rfl⟩⟩
theorem zRel.ct {q : Int} {M P : zM} (h : zRel q M P) : zCt (P 179) (P 181) (P 178 5) := ⟨h.2.2.1.2, fun a h0 h2 => by
  obtain ⟨g1, g2, g3, g4⟩ := h.2.1 a h0 h2
  refine ⟨g2, g3, fun i i0 i1 => ?_⟩
  obtain ⟨f1, f2, f3, f4, f5, f6, f7, -⟩ := g4 i i0 i1
  exact ⟨f6, f7⟩⟩
/-- runs leave the relation as it was -/
theorem zRel.run {q : Int} {M P M1 P1 : zM} (h : zRel q M P) (u1 : zFc M M1) (u2 : zFs P P1) : zRel q M1 P1 := by
  obtain ⟨⟨r0, r1⟩, rc, rh, rp, rb, rs, rw0, rx, ro, rk, rt, rr⟩ := id h
  exact ⟨⟨u1.pc r0, u2.pr r1⟩, rc.of (fun r y a b => u1 r y (by omega)) (fun a _ _ => u2 179 a (by omega)) (fun i _ _ => ⟨u2 180 i (by omega), u2 181 i (by omega), u2 182 i (by omega)⟩), by rw [u1 _ _ (by omega), u2 _ _ (by omega)]; exact rh, rp.of (u1 _ _ (by omega)) (fun y => u1 _ _ (by omega)) (u2 _ _ (by omega)) (fun j _ _ => ⟨u2 183 j (by omega), u2 184 j (by omega)⟩), rb.of (fun y => u1 _ _ (by omega)) (u1 _ _ (by omega)) (fun y => u2 _ _ (by omega)), rs.of (fun y => u1 _ _ (by omega)) (u2 _ _ (by omega)) (u2 _ _ (by omega)) (u2 _ _ (by omega)), rw0.of (fun y a b => u1 _ _ (by omega)) (fun y => u1 _ _ (by omega)) (u2 _ _ (by omega)) (u2 _ _ (by omega)) (u2 _ _ (by omega)) (fun y => u2 _ _ (by omega)), rx.of (u1 _ _ (by omega)) (fun r y a b => u1 _ _ (by omega)) (u2 _ _ (by omega)) (fun r y a b => u2 _ _ (by omega)), ro.of (u1 _ _ (by omega)) (fun r y a b => u1 _ _ (by omega)) (u2 _ _ (by omega)) (fun r y a b => u2 _ _ (by omega)), rk.of (fun r y a b => u1 _ _ (by omega)) (u2 _ _ (by omega)) (u2 _ _ (by omega)) (u2 _ _ (by omega)) (fun r y a b => u2 _ _ (by omega)), rt.of (fun r y a b => u1 _ _ (by omega)) (fun r y a b => u2 _ _ (by omega)), by rw [u1 _ _ (by omega), u2 _ _ (by omega)]; exact rr⟩
/-- both sides at the start of a run -/
theorem zRel.go0 {q : Int} {M P : zM} (h : zRel q M P) (n m : Nat) : ∃ M1 M2, zex 60 0 [] [(2, 27), (9, 0)] M (zKs, n, m) = some ((9, 0), M1, (zKs, n, m)) ∧ zex 61 0 [] [(2, 27), (9, 0)] M1 (zKs, n, m) = some ((9, 0), M2, (zKs, n, m)) ∧ zSC M2 (P 179) (P 181) (P 180) (zs0 (P 178 10) (P 178 11) (P 178 12)) ∧ M2 27 6 = 0 ∧ zFc M M1 ∧ zFc M M2 := by
  obtain ⟨M1, a1, a2, a3⟩ := e60 (n := n) (m := m) (d := (9, 0)) h.1.1
  have f1 : zFc M M1 := fun r y hr => a3 r y (by omega)
  obtain ⟨s0, s1, s2, s3, s4, -⟩ := h.2.2.2.2.2.1
  obtain ⟨M2, b1, b2, b3, b4, b5⟩ := e61 (n := n) (m := m) (d := (9, 0)) (k := P 180) (sx := P 178 10) (sy := P 178 11) (sd := P 178 12) (f1.pc h.1.1) (f1.cc h.cc) (by rw [f1 _ _ (by omega), f1 _ _ (by omega), f1 _ _ (by omega), f1 _ _ (by omega), f1 _ _ (by omega)]; exact ⟨s0, s1, s2, s3, s4⟩) (fun a h0 h2 i i0 i1 => by
    have := (h.cc a h0 h2).2.1
    rw [a2 a h0 h2 i i0 (by omega)]
    exact h.kk a h0 h2 i i0 i1)
  exact ⟨M1, M2, a1, b1, b2, b3, f1, f1.trans b5⟩
theorem zRel.s0 {q : Int} {M P : zM} (h : zRel q M P) : zSk (P 179) (P 181) (P 178 5) 0 (zs0 (P 178 10) (P 178 11) (P 178 12)) := by
  obtain ⟨s0, s1, s2, s3, s4, s5, s6, s7, s8⟩ := h.2.2.2.2.2.1
  exact zs0_ok h.ct s5 s6 ⟨s7, s8⟩
theorem o_where {q : Int} {M P : zM} (h : zRel q M P) (n m : Nat) (hn : 1 ≤ n) (hm : 6 ≤ m) (u w : Int) : zOpt q 0 108 174 [(0, u), (0, w)] [(0, u), (0, w), (9, 0)] M P n m := by
  obtain ⟨⟨r0, r1⟩, rc, rh, rp, rb, rs, rw0, rx, ro, rk, rt, rr⟩ := id h
  obtain ⟨⟨a1, a2, a3⟩, ⟨b1, b2, b3⟩, c1, c2, c3⟩ := zcnt rc
  have k6 := e6 (d := (9, 0)) (d' := (9, 0)) (zCa2 r0 n m) (by simp only [Int.reduceAdd]; omega) (by simp only [Int.reduceAdd]; omega) (by simp only [Int.reduceAdd]; omega)
  rw [zga_un rc] at k6
  have l6 : ∀ n m, zex 160 0 [] [(2, 178), (9, 0), (9, 0), (9, 0)] P (zKs, n, m) = some ((0, zun0 P), P, (zKs, n, m)) := fun n m => e160 r1 ⟨a2, a3⟩ ⟨b2, b3⟩ ⟨c2, c3⟩
  by_cases hw : 0 ≤ w ∧ w ≤ 4
  · by_cases hu : 0 ≤ u ∧ u ≤ 4000
    · by_cases hz : zun0 P ≤ 0
      · obtain ⟨M1, M2, m1, m2, m3, m4, m5, m6⟩ := h.go0 n m
        obtain ⟨w1, w2, w3, w4, w5, w6, w7⟩ := rw0
        have r0' := m6.pc r0
        obtain ⟨M3, d1, d2, d3, d4⟩ := e64 (n := n) (m := m) (v := 0) (E := (min u (P 178 16)).toNat) (d := (9, 0)) h.ct h.s0 (by omega) (by omega) r0' (m6.cc h.cc) (by rw [m6 _ _ (by omega)]; exact rh.1) m4 m3
        rw [show (((min u (P 178 16)).toNat : Nat) : Int) = min u (P 178 16) by omega] at d1 d2
        have t1 := zRel_thr h 0
        obtain ⟨P1, p1, p2, p3, p4⟩ := e161 (d := (9, 0)) t1.1.2 (by rw [zun2 (by omega)]; exact rs.2.2.2.2.2.1) (by rw [zun2 (by omega)]; exact rs.2.2.2.2.2.2.1)
        have z1 : ∀ r y, (r ≠ 178 ∨ y ≠ 0) → zu P 178 0 0 r y = P r y := fun r y hr => by
          by_cases e : r = 178
          · exact zun2 (by omega)
          · exact zun e
        rw [z1 178 10 (by omega), z1 178 11 (by omega), z1 178 12 (by omega), show zu P 178 0 0 180 = P 180 from funext fun y => z1 _ _ (by omega)] at p2
        obtain ⟨P2, q1, q2, q3⟩ := zRA.go (n := n) (m := m) (e := 0) (E := (min u (P 178 16)).toNat) (to := u) (F := P 178 16) (c := P 179) (l := P 181) (wn := P 182) (k := P 180) (h := P 178 5) (σ := zs0 (P 178 10) (P 178 11) (P 178 12)) ⟨0, Nat.le_refl _, p3, p2, .inl rfl⟩ (by omega) h.ct h.s0 w6 hu.1 (by omega) (p4.pr t1.1.2) (p4.cr ⟨fun a x y => by rw [z1 _ _ (by omega)]; exact h.cr.1 a x y, fun i _ _ => ⟨z1 _ _ (by omega), z1 _ _ (by omega)⟩⟩) (by rw [p4 _ _ (by omega), z1 _ _ (by omega)]) (by rw [p4 _ _ (by omega), z1 _ _ (by omega)])
        obtain ⟨x0, x1, x2, x3, x4⟩ := q2.pose h.ct h.s0
        obtain ⟨⟨⟨y0, y1, y2, y3⟩, y4⟩, -⟩ := d3
        have hz2 : P2 178 0 = 0 := by rw [q3 _ _ (by omega), p4 _ _ (by omega), zus]
        refine ⟨M3, P2, fun r y hr => by rw [d4 _ _ (by omega), m6 _ _ (by omega)], fun r y hr => by rw [q3 _ _ (by omega), p4 _ _ (by omega), z1 _ _ (by omega)], t1.run (m6.trans d4) (p4.trans q3), .inl ⟨if w = 0 then P2 178 52 else if w = 1 then P2 178 53 else if w = 2 then P2 178 54 else if w = 3 then P2 178 55 else P2 178 56, ?_, ?_, hz2⟩⟩
        · have k1 := m5.pc r0
          have k3 := (m6.trans d4).pc r0
          have f16 : M2 25 3 = P 178 16 := by rw [m6 _ _ (by omega), w5]
          simp (disch := omega) only [q108_0, ↓b133, ↓b221, hw, hu, k6, hz, m1, m2, d1, f16, zk_1, zk_2, zk_25, zk_27, zk_28, zp_1_0 r0, zp_1_4 r0, zp_1_4 k1, zp_1_4 r0', zp_1_3 r0', zp_1_4 k3, zp_27_2 k3, e55 (zk_28 n m), y0, y1, y2, y3, y4, x0, x1, x2, x3, x4, zg_pos, ↓reduceIte, Int.reduceEq, Int.reduceLE, Int.reduceLT, Int.reduceAdd, Int.reduceSub, Int.reduceMul, Int.reduceNeg, zg_T, zbI_ok, zbL_ok, zbN_ok, zite1, zite2, zite3, zem, Int.cast_ofNat_Int, and_self, and_true, true_and, or_true, true_or, or_self, ite_not, if_true, if_false, not_true_eq_false, not_false_eq_true]
        · simp (disch := omega) only [q174_0, q174_13, q174_25, ↓b143, hw, hu, l6, hz, p1, q1, zk_178, zus, zg_pos, ↓reduceIte, Int.reduceEq, Int.reduceLE, Int.reduceLT, Int.reduceAdd, Int.reduceSub, Int.reduceMul, Int.reduceNeg, zg_T, zbI_ok, zbL_ok, zbN_ok, zite1, zite2, zite3, zem, Int.cast_ofNat_Int, and_self, and_true, true_and, or_true, true_or, or_self, ite_not, if_true, if_false, not_true_eq_false, not_false_eq_true]
          repeat' split
          all_goals rw [q174_61]
      · refine zOpt_e2 h 2019 0 (by omega) ?_ (fun n m => ?_)
        · simp (disch := omega) only [q108_0, ↓b133, hw, hu, k6, hz, zk_1, zk_2, zp_1_0 r0, zg_pos, ↓reduceIte, Int.reduceEq, Int.reduceLE, Int.reduceLT, Int.reduceAdd, Int.reduceSub, Int.reduceMul, Int.reduceNeg, zg_T, zbI_ok, zbL_ok, zbN_ok, zite1, zite2, zite3, zem, Int.cast_ofNat_Int, and_self, and_true, true_and, or_true, true_or, or_self, ite_not, if_true, if_false, not_true_eq_false, not_false_eq_true]
        · simp (disch := omega) only [q174_0, q174_13, q174_25, ↓b143, hw, hu, l6, hz, zk_178, zus, zg_pos, ↓reduceIte, Int.reduceEq, Int.reduceLE, Int.reduceLT, Int.reduceAdd, Int.reduceSub, Int.reduceMul, Int.reduceNeg, zg_T, zbI_ok, zbL_ok, zbN_ok, zite1, zite2, zite3, zem, Int.cast_ofNat_Int, and_self, and_true, true_and, or_true, true_or, or_self, ite_not, if_true, if_false, not_true_eq_false, not_false_eq_true]
    · refine zOpt_e1 h 1010 0 (by omega) ?_ (fun n m => ?_)
      · simp (disch := omega) only [q108_0, q108_10, ↓b133, hw, hu, zg_pos, ↓reduceIte, Int.reduceEq, Int.reduceLE, Int.reduceLT, Int.reduceAdd, Int.reduceSub, Int.reduceMul, Int.reduceNeg, zg_T, zbI_ok, zbL_ok, zbN_ok, zite1, zite2, zite3, zem, Int.cast_ofNat_Int, and_self, and_true, true_and, or_true, true_or, or_self, ite_not, if_true, if_false, not_true_eq_false, not_false_eq_true]
      · simp (disch := omega) only [q174_0, q174_12, q174_13, q174_25, ↓b143, hw, hu, zk_178, zus, zg_pos, ↓reduceIte, Int.reduceEq, Int.reduceLE, Int.reduceLT, Int.reduceAdd, Int.reduceSub, Int.reduceMul, Int.reduceNeg, zg_T, zbI_ok, zbL_ok, zbN_ok, zite1, zite2, zite3, zem, Int.cast_ofNat_Int, and_self, and_true, true_and, or_true, true_or, or_self, ite_not, if_true, if_false, not_true_eq_false, not_false_eq_true]
  · refine zOpt_e1 h 1010 0 (by omega) ?_ (fun n m => ?_)
    · simp (disch := omega) only [q108_0, q108_10, ↓b133, hw, zg_pos, ↓reduceIte, Int.reduceEq, Int.reduceLE, Int.reduceLT, Int.reduceAdd, Int.reduceSub, Int.reduceMul, Int.reduceNeg, zg_T, zbI_ok, zbL_ok, zbN_ok, zite1, zite2, zite3, zem, Int.cast_ofNat_Int, and_self, and_true, true_and, or_true, true_or, or_self, ite_not, if_true, if_false, not_true_eq_false, not_false_eq_true]
    · simp (disch := omega) only [q174_0, q174_12, q174_13, q174_25, ↓b143, hw, zk_178, zus, zg_pos, ↓reduceIte, Int.reduceEq, Int.reduceLE, Int.reduceLT, Int.reduceAdd, Int.reduceSub, Int.reduceMul, Int.reduceNeg, zg_T, zbI_ok, zbL_ok, zbN_ok, zite1, zite2, zite3, zem, Int.cast_ofNat_Int, and_self, and_true, true_and, or_true, true_or, or_self, ite_not, if_true, if_false, not_true_eq_false, not_false_eq_true]
