/-! FINDS: what they leave as it was; miss; whether a run agrees -/
def zFd (M M' : zM) : Prop := ∀ r y, (r < 27 ∨ (r = 27 ∧ y ≠ 6 ∧ y ≠ 8) ∨ r = 29 ∨ (35 < r ∧ r < 65) ∨ (r = 65 ∧ y ≠ 4 ∧ y ≠ 7 ∧ y ≠ 11) ∨ (65 < r ∧ r < 70) ∨ 74 < r) → M' r y = M r y
theorem zFd.trans {M M' M'' : zM} (h : zFd M M') (h' : zFd M' M'') : zFd M M'' := fun r y hr => (h' r y hr).trans (h r y hr)
theorem zFd.rfl {M : zM} : zFd M M := fun _ _ _ => Eq.refl _
theorem zFc.d {M M' : zM} (h : zFc M M') : zFd M M' := fun r y hr => h r y (by omega)
theorem zFd.pc {M M' : zM} (h : zFd M M') (r0 : zPC M) : zPC M' := zPC_t (fun r y => decide (r = 28) || decide (30 ≤ r ∧ r ≤ 35) || decide (r = 27 ∧ (y = 6 ∨ y = 8)) || decide (r = 65 ∧ (y = 4 ∨ y = 7 ∨ y = 11)) || decide (70 ≤ r ∧ r ≤ 74)) (by decide +kernel) r0 (fun r y hr => h r y (by simp at hr; omega))
theorem zFd.zu {M M' : zM} {a b v : Int} (h : zFd M M') (ha : (a = 27 ∧ (b = 6 ∨ b = 8)) ∨ a = 28 ∨ (30 ≤ a ∧ a ≤ 35) ∨ (a = 65 ∧ (b = 4 ∨ b = 7 ∨ b = 11)) ∨ (70 ≤ a ∧ a ≤ 74)) : zFd M (zu M' a b v) := fun r y hr => by
  by_cases e : r = a
  · rw [zun2 (by omega)]
    exact h r y hr
  · rw [zun e]
    exact h r y hr
theorem zRel.run2 {q : Int} {M P M1 P1 : zM} (h : zRel q M P) (u1 : zFd M M1) (u2 : zFs P P1) : zRel q M1 P1 := by
  obtain ⟨⟨r0, r1⟩, rc, rh, rp, rb, rs, rw0, rx, ro, rk, rt, rr⟩ := id h
  exact ⟨⟨u1.pc r0, u2.pr r1⟩, rc.of (fun r y a b => u1 r y (by omega)) (fun a _ _ => u2 179 a (by omega)) (fun i _ _ => ⟨u2 180 i (by omega), u2 181 i (by omega), u2 182 i (by omega)⟩), by rw [u1 _ _ (by omega), u2 _ _ (by omega)]; exact rh, rp.of (u1 _ _ (by omega)) (fun y => u1 _ _ (by omega)) (u2 _ _ (by omega)) (fun j _ _ => ⟨u2 183 j (by omega), u2 184 j (by omega)⟩), rb.of (fun y => u1 _ _ (by omega)) (u1 _ _ (by omega)) (fun y => u2 _ _ (by omega)), rs.of (fun y => u1 _ _ (by omega)) (u2 _ _ (by omega)) (u2 _ _ (by omega)) (u2 _ _ (by omega)), rw0.of (fun y a b => u1 _ _ (by omega)) (fun y => u1 _ _ (by omega)) (u2 _ _ (by omega)) (u2 _ _ (by omega)) (u2 _ _ (by omega)) (fun y => u2 _ _ (by omega)), rx.of (u1 _ _ (by omega)) (fun r y a b => u1 _ _ (by omega)) (u2 _ _ (by omega)) (fun r y a b => u2 _ _ (by omega)), ro.of (u1 _ _ (by omega)) (fun r y a b => u1 _ _ (by omega)) (u2 _ _ (by omega)) (fun r y a b => u2 _ _ (by omega)), rk.of (fun r y a b => u1 _ _ (by omega)) (u2 _ _ (by omega)) (u2 _ _ (by omega)) (u2 _ _ (by omega)) (fun r y a b => u2 _ _ (by omega)), rt.of (fun r y a b => u1 _ _ (by omega)) (fun r y a b => u2 _ _ (by omega)), by rw [u1 _ _ (by omega), u2 _ _ (by omega)]; exact rr⟩
theorem zRel.sp {q : Int} {M P : zM} (h : zRel q M P) : zSpo (P 178 16) (P 178 21) (P 190) := by
  obtain ⟨⟨r0, r1⟩, rc, rh, rp, rb, rs, ⟨w1, w2, w3, w4, w5, w6, w7⟩, rx, ⟨o1, o2, o3, o4⟩, rk, rt, rr⟩ := id h
  exact ⟨w6, o2, fun i i0 i1 => (o3 i i0 i1).2.2.2.1, o4⟩
theorem zRel.rd {q : Int} {M P : zM} (h : zRel q M P) : zRD P (P 179) (P 181) (P 182) (P 178 5) (P 178 16) (P 178 21) (P 190) (P 191) (P 192) := ⟨h.1.2, h.cr, rfl, rfl, rfl, fun i _ _ => ⟨rfl, rfl, rfl⟩⟩
theorem zRel.cd {q : Int} {M P : zM} (h : zRel q M P) : zCD M (P 179) (P 181) (P 182) (P 178 5) (P 178 16) (P 178 21) (P 190) (P 191) (P 192) := by
  obtain ⟨⟨r0, r1⟩, rc, rh, rp, rb, rs, ⟨w1, w2, w3, w4, w5, w6, w7⟩, rx, ⟨o1, o2, o3, o4⟩, rk, rt, rr⟩ := id h
  exact ⟨r0, h.cc, rh.1, w5, o1, fun i i0 i1 => ⟨(o3 i i0 i1).1, (o3 i i0 i1).2.1, (o3 i i0 i1).2.2.1⟩⟩
theorem zFd.cc {M M' : zM} {c l wn : Int → Int} (h : zFd M M') (hC : zCC M c l wn) : zCC M' c l wn := fun a h0 h2 => by
  obtain ⟨c1, c2, c3⟩ := hC a h0 h2
  rw [h _ _ (by omega)]
  exact ⟨c1, c2, fun i i0 i1 => by rw [h _ _ (by omega), h _ _ (by omega)]; exact c3 i i0 i1⟩
theorem zCD.of2 {M M' : zM} {c l wn : Int → Int} {h F S : Int} {U X Y : Int → Int} (hD : zCD M c l wn h F S U X Y) (f : zFd M M') : zCD M' c l wn h F S U X Y := by
  obtain ⟨d1, d2, d3, d4, d5, d6⟩ := hD
  exact ⟨f.pc d1, f.cc d2, by rw [f _ _ (by omega), d3], by rw [f _ _ (by omega), d4], by rw [f _ _ (by omega), d5], fun i i0 i1 => by rw [f _ _ (by omega), f _ _ (by omega), f _ _ (by omega)]; exact d6 i i0 i1⟩
theorem o_miss {q : Int} {M P : zM} (h : zRel q M P) (n m : Nat) : zOpn q 115 193 [] [] M P n m := by
  obtain ⟨⟨r0, r1⟩, rc, rh, rp, rb, rs, rw0, rx, ro, rk, rt, rr⟩ := id h
  obtain ⟨⟨a1, a2, a3⟩, ⟨b1, b2, b3⟩, c1, c2, c3⟩ := zcnt rc
  have k6 := e6 (d := (9, 0)) (d' := (9, 0)) (zCa2 r0 n m) (by simp only [Int.reduceAdd]; omega) (by simp only [Int.reduceAdd]; omega) (by simp only [Int.reduceAdd]; omega)
  rw [zga_un rc] at k6
  have l6 := e160 (n := n) (m := m) (d := (9, 0)) (d' := (9, 0)) (d'' := (9, 0)) r1 ⟨a2, a3⟩ ⟨b2, b3⟩ ⟨c2, c3⟩
  by_cases hz : zun0 P ≤ 0
  · obtain ⟨M1, M2, m1, m2, m3, m4, m5, m6⟩ := h.go0 n m
    obtain ⟨P1, p1, p2, p3, p4⟩ := e161 (d := (9, 0)) r1 rs.2.2.2.2.2.1 rs.2.2.2.2.2.2.1
    have sp := h.sp
    have sp2 := sp.2.1
    obtain ⟨M3, d1, d2⟩ := e18_l (n := n) (m := m) (k := P 180) (v := 0) h.ct h.s0 sp (P 178 21).toNat 0 0 M2 (by omega) (by omega) (fun _ => by omega) (h.cd.of m6) m4 m3 (by omega) (by omega)
    obtain ⟨P2, q1, q2⟩ := e192_0 (n := n) (m := m) (k := P 180) (e := 0) h.ct h.s0 sp (P 178 21).toNat 0 0 P1 (by omega) (by omega) (fun _ => by omega) (h.rd.of p4) ⟨0, by omega, p3, p2, .inl rfl⟩ (by omega) (by omega)
    refine ⟨0 + zsm (zms (P 179) (P 180) (P 181) (P 178 5) (P 178 16) (zs0 (P 178 10) (P 178 11) (P 178 12)) (P 190) (P 191) (P 192)) 0 (P 178 21).toNat, M3, P2, ?_, fun r y hr => by rw [d2 _ _ (by omega), m6 _ _ (by omega)], ?_, fun r y hr => by rw [q2 _ _ (by omega), p4 _ _ (by omega)], h.run (m6.trans d2) (p4.trans q2)⟩
    · simp (disch := omega) only [q115_0, q115_9, q18_0, k6, hz, m1, m2, d1, zk_1, zk_2, zk_27, zk_65, zp_1_0 r0, zp_1_7 r0, zp_65_0 r0, zp_65_0 (m5.pc r0), zg_pos, ↓reduceIte, Int.reduceEq, Int.reduceLE, Int.reduceLT, Int.reduceAdd, Int.reduceSub, Int.reduceMul, Int.reduceNeg, zg_T, zbI_ok, zbL_ok, zbN_ok, zite1, zite2, zite3, zem, Int.cast_ofNat_Int, and_self, and_true, true_and, or_true, true_or, or_self, ite_not, if_true, if_false, not_true_eq_false, not_false_eq_true]
    · simp (disch := omega) only [q193_0, q192_0, l6, hz, p1, q1, zk_178, zg_pos, ↓reduceIte, Int.reduceEq, Int.reduceLE, Int.reduceLT, Int.reduceAdd, Int.reduceSub, Int.reduceMul, Int.reduceNeg, zg_T, zbI_ok, zbL_ok, zbN_ok, zite1, zite2, zite3, zem, Int.cast_ofNat_Int, and_self, and_true, true_and, or_true, true_or, or_self, ite_not, if_true, if_false, not_true_eq_false, not_false_eq_true]
  · refine ⟨-3, M, P, ?_, zCf.rfl, ?_, zRf.rfl, h⟩
    · simp (disch := omega) only [q115_0, q115_9, k6, hz, zk_1, zk_2, zp_1_0 r0, zg_pos, ↓reduceIte, Int.reduceEq, Int.reduceLE, Int.reduceLT, Int.reduceAdd, Int.reduceSub, Int.reduceMul, Int.reduceNeg, zg_T, zbI_ok, zbL_ok, zbN_ok, zite1, zite2, zite3, zem, Int.cast_ofNat_Int, and_self, and_true, true_and, or_true, true_or, or_self, ite_not, if_true, if_false, not_true_eq_false, not_false_eq_true]
    · simp (disch := omega) only [q193_0, l6, hz, zk_178, zg_pos, ↓reduceIte, Int.reduceEq, Int.reduceLE, Int.reduceLT, Int.reduceAdd, Int.reduceSub, Int.reduceMul, Int.reduceNeg, zg_T, zbI_ok, zbL_ok, zbN_ok, zite1, zite2, zite3, zem, Int.cast_ofNat_Int, and_self, and_true, true_and, or_true, true_or, or_self, ite_not, if_true, if_false, not_true_eq_false, not_false_eq_true]
/-- all spots are hit -/
def zAll (c k l : Int → Int) (h F S : Int) (σ : zS) (U X Y : Int → Int) : Prop := ∀ j, 0 ≤ j → j < S → zht c k l h F σ U X Y j
theorem e26 {M : zM} {n m : Nat} {c l wn k : Int → Int} {h F S sx sy sd : Int} {U X Y : Int → Int} {d : zV} (hct : zCt c l h) (hσ : zSk c l h 0 (zs0 sx sy sd)) (hso : zSpo F S U) (hD : zCD M c l wn h F S U X Y) (hs : M 17 0 = 1000 * sx + 500 ∧ M 17 1 = 1000 * sy + 500 ∧ M 17 2 = sd ∧ M 17 3 = 0 ∧ M 17 4 = 0) (hk : ∀ a, 0 ≤ a → a ≤ 2 → ∀ i, 0 ≤ i → i < c a → M (30 + a) i = k (40 * a + i)) : ∃ M' w, zex 26 0 [] [(2, 65), d] M (zKs, n, m) = some ((0, w), M', (zKs, n, m)) ∧ zFc M M' ∧ (∀ a, 0 ≤ a → a ≤ 2 → ∀ i, 0 ≤ i → i < c a → M' (30 + a) i = k (40 * a + i)) ∧ ((w = 1 ∧ zAll c k l h F S (zs0 sx sy sd) U X Y) ∨ (w = 0 ∧ ¬ zAll c k l h F S (zs0 sx sy sd) U X Y)) := by
  have o := hso.2.1
  obtain ⟨M1, a1, a2, a3, a4, a5⟩ := e61 (n := n) (m := m) (d := (9, 0)) hD.1 hD.2.1 hs hk
  obtain ⟨M2, w, b1, b2, b3, b4⟩ := e26_l (n := n) (m := m) (v := 0) hct hσ hso S.toNat 0 M1 (by omega) (by omega) (fun _ => by omega) (hD.of a5) a3 a2
  refine ⟨M2, w, ?_, a5.trans b2, b3, b4⟩
  simp (disch := omega) only [q26_0, a1, b1, zk_27, zk_65, zp_65_0 hD.1, zg_pos, ↓reduceIte, Int.reduceEq, Int.reduceLE, Int.reduceLT, Int.reduceAdd, Int.reduceSub, Int.reduceMul, Int.reduceNeg, zg_T, zbI_ok, zbL_ok, zbN_ok, zite1, zite2, zite3, zem, Int.cast_ofNat_Int, and_self, and_true, true_and, or_true, true_or, or_self, ite_not, if_true, if_false, not_true_eq_false, not_false_eq_true]
theorem e192 {P : zM} {n m : Nat} {c l wn k : Int → Int} {h F S sx sy sd : Int} {U X Y : Int → Int} {d d' : zV} (hct : zCt c l h) (hσ : zSk c l h 0 (zs0 sx sy sd)) (hso : zSpo F S U) (hD : zRD P c l wn h F S U X Y) (hS : zSR P k (zs0 sx sy sd)) (hu : P 178 57 = 0) : ∃ P' v, zex 192 0 [] [(2, 178), (0, 1), d, d'] P (zKs, n, m) = some ((0, v), P', (zKs, n, m)) ∧ zFs P P' ∧ ((v = 0 ∧ zAll c k l h F S (zs0 sx sy sd) U X Y) ∨ (v = 1 ∧ ¬ zAll c k l h F S (zs0 sx sy sd) U X Y)) := by
  have o := hso.2.1
  obtain ⟨P2, v, q1, q2, q3⟩ := e192_1 (n := n) (m := m) (e := 0) hct hσ hso S.toNat 0 P (by omega) (by omega) (fun _ => by omega) hD ⟨0, by omega, hu, hS, .inl rfl⟩
  exact ⟨P2, v, by rw [q192_0, q1], q2, q3⟩
