/-! WAYS: way -/
/-- what the calls of ways change, on either side -/
def zWF (M M1 : zM) : Prop := ∀ r y, (r < 18 ∨ r = 19 ∨ (r = 18 ∧ y ≠ 5) ∨ ((r = 21 ∨ r = 23) ∧ (y < 1 ∨ 2 < y)) ∨ (24 < r ∧ r < 47) ∨ (r = 47 ∧ (y < 4 ∨ 9 < y)) ∨ (47 < r ∧ r < 53) ∨ ((r = 53 ∨ r = 57 ∨ r = 61) ∧ y ≠ 0) ∨ 64 < r) → M1 r y = M r y
def zWG (P P1 : zM) : Prop := ∀ r y, ((r ≠ 178 ∨ (y ≠ 63 ∧ y ≠ 64)) ∧ (r < 216 ∨ 219 < r)) → P1 r y = P r y
theorem zWF.trans {M M1 M2 : zM} (h1 : zWF M M1) (h2 : zWF M1 M2) : zWF M M2 := fun r y hr => (h2 r y hr).trans (h1 r y hr)
theorem zWG.trans {M M1 M2 : zM} (h1 : zWG M M1) (h2 : zWG M1 M2) : zWG M M2 := fun r y hr => (h2 r y hr).trans (h1 r y hr)
theorem zWF.rfl {M : zM} : zWF M M := fun _ _ _ => Eq.refl _
theorem zWG.rfl {M : zM} : zWG M M := fun _ _ _ => Eq.refl _
theorem zWF.pc {M M1 : zM} (h : zWF M M1) (r0 : zPC M) : zPC M1 := zPC_t (fun r y => decide (r = 20 ∨ r = 22 ∨ r = 24 ∨ (r = 18 ∧ y = 5) ∨ ((y = 1 ∨ y = 2) ∧ (r = 21 ∨ r = 23)) ∨ (r = 47 ∧ 4 ≤ y) ∨ ((r = 53 ∨ r = 57 ∨ r = 61) ∧ y = 0) ∨ (54 ≤ r ∧ r ≤ 56) ∨ (58 ≤ r ∧ r ≤ 60) ∨ (62 ≤ r ∧ r ≤ 64))) (by decide +kernel) r0 (fun r y hr => h r y (by simp at hr; omega))
theorem zWG.pr {P P1 : zM} (h : zWG P P1) (r1 : zPR P) : zPR P1 := zPR_t (fun r y => decide ((r = 178 ∧ (y = 63 ∨ y = 64)) ∨ (216 ≤ r ∧ r ≤ 219))) (by decide +kernel) r1 (fun r y hr => h r y (by simp at hr; omega))
theorem zRel.way {q : Int} {M P M1 P1 : zM} (h : zRel q M P) (u1 : zWF M M1) (u2 : zWG P P1) : zRel q M1 P1 := by
  have k1 := u1
  have k2 := u2
  unfold zWF at u1
  unfold zWG at u2
  obtain ⟨⟨r0, r1⟩, rc, rh, rp, rb, rs, rw0, rx, ro, rk, rt, rr⟩ := id h
  exact ⟨⟨k1.pc r0, k2.pr r1⟩, rc.of (by (intros; first | rfl | (simp (disch := omega) only [u1, u2, and_self]))) (by (intros; first | rfl | (simp (disch := omega) only [u1, u2, and_self]))) (by (intros; first | rfl | (simp (disch := omega) only [u1, u2, and_self]))), (by (simp (disch := omega) only [u1, u2]; exact rh)), rp.of (by (intros; first | rfl | (simp (disch := omega) only [u1, u2, and_self]))) (by (intros; first | rfl | (simp (disch := omega) only [u1, u2, and_self]))) (by (intros; first | rfl | (simp (disch := omega) only [u1, u2, and_self]))) (by (intros; first | rfl | (simp (disch := omega) only [u1, u2, and_self]))), rb.of (by (intros; first | rfl | (simp (disch := omega) only [u1, u2, and_self]))) (by (intros; first | rfl | (simp (disch := omega) only [u1, u2, and_self]))) (by (intros; first | rfl | (simp (disch := omega) only [u1, u2, and_self]))), rs.of (by (intros; first | rfl | (simp (disch := omega) only [u1, u2, and_self]))) (by (intros; first | rfl | (simp (disch := omega) only [u1, u2, and_self]))) (by (intros; first | rfl | (simp (disch := omega) only [u1, u2, and_self]))) (by (intros; first | rfl | (simp (disch := omega) only [u1, u2, and_self]))), rw0.of (by (intros; first | rfl | (simp (disch := omega) only [u1, u2, and_self]))) (by (intros; first | rfl | (simp (disch := omega) only [u1, u2, and_self]))) (by (intros; first | rfl | (simp (disch := omega) only [u1, u2, and_self]))) (by (intros; first | rfl | (simp (disch := omega) only [u1, u2, and_self]))) (by (intros; first | rfl | (simp (disch := omega) only [u1, u2, and_self]))) (by (intros; first | rfl | (simp (disch := omega) only [u1, u2, and_self]))), rx.of (by (intros; first | rfl | (simp (disch := omega) only [u1, u2, and_self]))) (by (intros; first | rfl | (simp (disch := omega) only [u1, u2, and_self]))) (by (intros; first | rfl | (simp (disch := omega) only [u1, u2, and_self]))) (by (intros; first | rfl | (simp (disch := omega) only [u1, u2, and_self]))), ro.of (by (intros; first | rfl | (simp (disch := omega) only [u1, u2, and_self]))) (by (intros; first | rfl | (simp (disch := omega) only [u1, u2, and_self]))) (by (intros; first | rfl | (simp (disch := omega) only [u1, u2, and_self]))) (by (intros; first | rfl | (simp (disch := omega) only [u1, u2, and_self]))), rk.of (by (intros; first | rfl | (simp (disch := omega) only [u1, u2, and_self]))) (by (intros; first | rfl | (simp (disch := omega) only [u1, u2, and_self]))) (by (intros; first | rfl | (simp (disch := omega) only [u1, u2, and_self]))) (by (intros; first | rfl | (simp (disch := omega) only [u1, u2, and_self]))) (by (intros; first | rfl | (simp (disch := omega) only [u1, u2, and_self]))), rt.of (by (intros; first | rfl | (simp (disch := omega) only [u1, u2, and_self]))) (by (intros; first | rfl | (simp (disch := omega) only [u1, u2, and_self]))), (by (simp (disch := omega) only [u1, u2]; exact rr))⟩
theorem zWF_cf {M M1 : zM} (h : zWF M M1) : zCf M M1 := fun r y hr => h r y (by omega)
theorem zWG_rf {P P1 : zM} (h : zWG P P1) : zRf P P1 := fun r y hr => h r y (by omega)
/-- no way, or its length: the class's search against the reference's reckoning -/
theorem zRel.srch {q : Int} {M P : zM} (h : zRel q M P) (n m : Nat) {x y k gx gy : Int} {d7 d8 d9 d3 d4 d5 d6 : zV} (hxy : zfr (P 185) x y) (hk : 0 ≤ k ∧ k ≤ 3) (hg : (0 ≤ gx ∧ gx ≤ 31) ∧ 0 ≤ gy ∧ gy ≤ 31) : ∃ v M1 P1 D, zex 37 0 [] [(2, 18), (0, x), (0, y), (0, k), (0, gx), (0, gy), (0, 4 * P 178 5), d7, d8, d9] M (zKs, n, m) = some ((0, v), M1, (zKs, n, m)) ∧ zex 182 0 [] [(2, 178), (0, gx), (0, gy), d3, d4, d5, d6] P (zKs, n, m) = some ((9, 0), P1, (zKs, n, m)) ∧ (∀ r t, (r < 18 ∨ r = 19 ∨ 24 < r ∨ (r = 18 ∧ t ≠ 5) ∨ ((r = 21 ∨ r = 23) ∧ (t < 1 ∨ 2 < t))) → M1 r t = M r t) ∧ (∀ r t, r ≠ 216 → P1 r t = P r t) ∧ zDF (P 185) (P 178 5) gx gy D ∧ (∀ t, 0 ≤ t → t < 4096 → P1 216 t = D (zpi t)) ∧ ((v = -1 ∧ P1 216 (4 * (32 * y + x) + k) = -1) ∨ (0 ≤ v ∧ P1 216 (4 * (32 * y + x) + k) = v ∧ zKn (M1 20) D v)) := by
  obtain ⟨⟨r0, r1⟩, rc, rh, rp, rb, rs, rw0, rx, ro, rk, rt, rr⟩ := id h
  obtain ⟨P1, D, a1, a2, a3, a4⟩ := e182_D (n := n) (m := m) (x := gx) (y := gy) (d3 := d3) (d4 := d4) (d5 := d5) (d6 := d6) r1 rh.2 (by omega) (by omega)
  obtain ⟨v, M1, b1, b2, b3⟩ := e37 (n := n) (m := m) (x := x) (y := y) (q := k) (d7 := d7) (d8 := d8) (d9 := d9) r0 (fun t t0 t1 => (rb.1 t t0 t1).1) a3 rh.2 hxy hg
  obtain ⟨f1, f2, f3⟩ := hxy
  refine ⟨v, M1, P1, D, b1, a1, b2, a2, a3, a4, ?_⟩
  have e := a4 (4 * (32 * y + x) + k) (by omega) (by omega)
  rw [show zpi (4 * (32 * y + x) + k) = (y * 32 + x) * 2 + k % 2 by unfold zpi; omega] at e
  rw [e]
  exact b3
theorem o_way {q : Int} {M P : zM} (h : zRel q M P) (n m : Nat) (x y k gx gy : Int) : zOpn q 111 183 [(0, x), (0, y), (0, k), (0, gx), (0, gy), (9, 0)] [(0, x), (0, y), (0, k), (0, gx), (0, gy), (9, 0)] M P n m := by
  obtain ⟨⟨r0, r1⟩, rc, rh, rp, rb, rs, rw0, rx, ro, rk, rt, rr⟩ := id h
  have no : ∀ v, zex 111 0 [] [(2, 1), (0, x), (0, y), (0, k), (0, gx), (0, gy), (9, 0)] M (zKs, n, m) = some ((0, v), M, (zKs, n, m)) → zex 183 0 [] [(2, 178), (0, x), (0, y), (0, k), (0, gx), (0, gy), (9, 0)] P (zKs, n, m) = some ((0, v), P, (zKs, n, m)) → zOpn q 111 183 [(0, x), (0, y), (0, k), (0, gx), (0, gy), (9, 0)] [(0, x), (0, y), (0, k), (0, gx), (0, gy), (9, 0)] M P n m := fun v h1 h2 => ⟨v, M, P, h1, zCf.rfl, h2, zRf.rfl, h⟩
  by_cases hxy : (0 ≤ x ∧ x ≤ 31) ∧ 0 ≤ y ∧ y ≤ 31
  · by_cases hg : (0 ≤ gx ∧ gx ≤ 31) ∧ 0 ≤ gy ∧ gy ≤ 31
    · by_cases hk : 0 ≤ k ∧ k ≤ 3
      · have rbc := rb.1 (y * 32 + x) (by omega) (by omega)
        have C0 : zex 111 0 [] [(2, 1), (0, x), (0, y), (0, k), (0, gx), (0, gy), (9, 0)] M (zKs, n, m) = if M 19 (y * 32 + x) = 0 then zbI (zex 37 0 [] [(2, 18), (0, x), (0, y), (0, k), (0, gx), (0, gy), (0, 4 * P 178 5), (9, 0), (9, 0), (9, 0)] M (zKs, n, m)) (fun v M X => if 0 ≤ v then some ((0, v), M, X) else some ((0, -5), M, X)) else some ((0, -4), M, (zKs, n, m)) := by
          rw [q111_0, e135, zbI_ok, if_pos hxy, if_neg (by omega), e133, zbI_ok, if_pos hk, if_neg (by omega), e135, zbI_ok, if_pos hg, if_neg (by omega), zg_pos ⟨zk_1 n m, by rw [zp_1_2 r0]; omega⟩, zp_1_2 r0, zg_pos (zk_18 n m), e36 r0, zbI_ok]
          by_cases e : M 19 (y * 32 + x) = 0
          · rw [show (if (0 ≤ x ∧ x ≤ 31) ∧ (0 ≤ y ∧ y ≤ 31) ∧ M 19 (y * 32 + x) = 0 then (1 : Int) else 0) = 1 from if_pos ⟨hxy.1, hxy.2, e⟩, if_neg (by omega), if_pos e, zg_pos ⟨zk_1 n m, by rw [zp_1_2 r0]; omega⟩, zg_pos ⟨zk_1 n m, by rw [zp_1_0 r0]; omega⟩, zp_1_0 r0, zp_1_2 r0, zg_pos (zk_2 n m), rh.1, zg_pos (by unfold zI; omega), zg_pos (zk_18 n m)]
            simp only [q111_42]
          · rw [show (if (0 ≤ x ∧ x ≤ 31) ∧ (0 ≤ y ∧ y ≤ 31) ∧ M 19 (y * 32 + x) = 0 then (1 : Int) else 0) = 0 from if_neg (fun c => e c.2.2), if_pos rfl, if_neg e]
        have R0 : zex 183 0 [] [(2, 178), (0, x), (0, y), (0, k), (0, gx), (0, gy), (9, 0)] P (zKs, n, m) = if P 185 (32 * y + x) = 0 then zbN (zex 182 0 [] [(2, 178), (0, gx), (0, gy), (9, 0), (9, 0), (9, 0), (9, 0)] P (zKs, n, m)) (fun M4 X4 => zg (zkd X4 178 = (18, 0) ∧ 0 < (M4 178 59)) (zg (zI ((32 : Int) * y)) (zg (zI (((32 : Int) * y) + x)) (zg (zI ((4 : Int) * (((32 : Int) * y) + x))) (zg (zI (((4 : Int) * (((32 : Int) * y) + x)) + k)) (zg ((zkd X4 (M4 178 59)).1 = 0 ∧ 0 ≤ (((4 : Int) * (((32 : Int) * y) + x)) + k) ∧ (((4 : Int) * (((32 : Int) * y) + x)) + k) < ((zkd X4 (M4 178 59)).2 : Int)) (if (M4 (M4 178 59) (((4 : Int) * (((32 : Int) * y) + x)) + k)) = (-1 : Int) then some ((0, -5), M4, X4) else some ((0, M4 (M4 178 59) (((4 : Int) * (((32 : Int) * y) + x)) + k)), M4, X4)))))))) else some ((0, -4), P, (zKs, n, m)) := by
          rw [q183_0, e153, zbI_ok, if_pos hxy, if_neg (by omega), e153, zbI_ok, if_pos hg, if_neg (by omega), e143, zbI_ok, if_pos hk, if_neg (by omega), zg_pos ⟨zk_178 n m, by rw [zp_178_9 r1]; omega⟩, zg_pos (by unfold zI; omega), zg_pos (by unfold zI; omega), zp_178_9 r1, zg_pos ⟨by rw [zk_185], by omega, by rw [zk_185]; omega⟩]
          by_cases e : P 185 (32 * y + x) = 0
          · rw [if_pos e, if_pos e, zg_pos (zk_178 n m)]
            simp only [q183_49]
          · rw [if_neg e, if_neg e]
        rw [show y * 32 + x = 32 * y + x by omega] at C0 rbc
        by_cases e : P 185 (32 * y + x) = 0
        · obtain ⟨v, M1, P1, D, a1, a2, a3, a4, a5, a6, a7⟩ := h.srch n m (x := x) (y := y) (k := k) (gx := gx) (gy := gy) (d7 := (9, 0)) (d8 := (9, 0)) (d9 := (9, 0)) (d3 := (9, 0)) (d4 := (9, 0)) (d5 := (9, 0)) (d6 := (9, 0)) ⟨hxy.1, hxy.2, e⟩ hk hg
          have w1 : zWF M M1 := fun r t hr => a3 r t (by omega)
          have w2 : zWG P P1 := fun r t hr => a4 r t (by omega)
          have r1' := w2.pr r1
          rw [rbc.1, if_pos e, a1, zbI_ok] at C0
          rw [if_pos e, a2, zbN_ok, zg_pos ⟨zk_178 n m, by rw [zp_178_59 r1']; omega⟩, zg_pos (by unfold zI; omega), zg_pos (by unfold zI; omega), zg_pos (by unfold zI; omega), zg_pos (by unfold zI; omega), zp_178_59 r1', zg_pos ⟨by rw [zk_216], by omega, by rw [zk_216]; omega⟩] at R0
          rcases a7 with ⟨b1, b2⟩ | ⟨b1, b2, b3⟩
          · rw [b1, if_neg (by omega)] at C0
            rw [if_pos b2] at R0
            exact ⟨-5, M1, P1, C0, zWF_cf w1, R0, zWG_rf w2, h.way w1 w2⟩
          · rw [if_pos b1] at C0
            rw [if_neg (by omega), b2] at R0
            exact ⟨v, M1, P1, C0, zWF_cf w1, R0, zWG_rf w2, h.way w1 w2⟩
        · rw [rbc.1, if_neg e] at C0
          rw [if_neg e] at R0
          exact no _ C0 R0
      · refine no (-1) ?_ ?_
        · rw [q111_0, e135, zbI_ok, if_pos hxy, if_neg (by omega), e133, zbI_ok, if_neg hk, if_pos rfl, q111_13]
        · rw [q183_0, e153, zbI_ok, if_pos hxy, if_neg (by omega), e153, zbI_ok, if_pos hg, if_neg (by omega), e143, zbI_ok, if_neg hk, if_pos rfl, q183_13]
    · refine no (-1) ?_ ?_
      · by_cases hk : 0 ≤ k ∧ k ≤ 3
        · rw [q111_0, e135, zbI_ok, if_pos hxy, if_neg (by omega), e133, zbI_ok, if_pos hk, if_neg (by omega), e135, zbI_ok, if_neg hg, if_pos rfl, q111_13]
        · rw [q111_0, e135, zbI_ok, if_pos hxy, if_neg (by omega), e133, zbI_ok, if_neg hk, if_pos rfl, q111_13]
      · rw [q183_0, e153, zbI_ok, if_pos hxy, if_neg (by omega), e153, zbI_ok, if_neg hg, if_pos rfl, q183_13]
  · refine no (-1) ?_ ?_
    · rw [q111_0, e135, zbI_ok, if_neg hxy, if_pos rfl, q111_13]
    · rw [q183_0, e153, zbI_ok, if_neg hxy, if_pos rfl, q183_13]
theorem lw_522 : zLop 522 := fun {q L x M n m e5 e6 e7} H hq h0 hn hm hx hL => by
  obtain ⟨v, M1, P1, a1, a2, a3, a4, a5⟩ := lw_op (q' := q) H (by omega) (fun P hP => (o_way hP n m (zsv M 4 (x + 1)) (zsv M 4 (x + 2)) (zsv M 4 (x + 3)) (zsv M 4 (x + 4)) (zsv M 4 (x + 5))))
  refine ⟨P1, n, m, e5, e6, e7, ?_, a3, by omega, by omega⟩
  have b0 := H.2.1
  simp (disch := omega) only [q228_522, q228_1000, b0, a4, a5, a1, a2, zk_1, zk_178, zg_pos, zI, ↓reduceIte, Int.reduceEq, Int.reduceLE, Int.reduceLT, Int.reduceAdd, Int.reduceSub, Int.reduceMul, Int.reduceNeg, zg_T, zbI_ok, zbL_ok, zbN_ok, zite1, zite2, zite3, zem, Int.cast_ofNat_Int, and_self, and_true, true_and, or_true, true_or, or_self, ite_not, if_true, if_false, not_true_eq_false, not_false_eq_true]
