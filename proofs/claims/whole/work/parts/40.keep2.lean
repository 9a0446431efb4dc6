/-! KEEP AND BACK: the reference's loops, the calls -/
theorem e210_l {Q : zM} {n m : Nat} {d : Int} (r1 : zPR Q) (hd : 0 ≤ d ∧ d ≤ 5) : ∀ (q : Nat) (t : Int), 0 ≤ t → t + q = 120 → zex 210 31 [] [(2, 178), (0, d), (0, t)] (zrc Q 205 2 (120 * d) 180 0 t) (zKs, n, m) = zex 210 31 [] [(2, 178), (0, d), (0, 120)] (zrc Q 205 2 (120 * d) 180 0 120) (zKs, n, m)
  | 0, t, h0, h1 => by
    rw [show t = 120 by omega]
  | q + 1, t, h0, h1 => by
    have zs := zrc_s (M := Q) (b := 205) (o := 120 * d) (s := 180) (p := 0) h0
    simp only [Int.reduceAdd, Int.zero_add] at zs
    rw [← e210_l (n := n) (m := m) r1 hd q (t + 1) (by omega) (by omega), q210_31]
    simp (disch := omega) only [q210_46, q210_58, q210_70, zk_178, zk_180, zk_181, zk_182, zk_205, zk_206, zk_207, zrc_r, zun, zp_178_2 r1, zp_178_3 r1, zp_178_4 r1, zp_178_41 r1, zp_178_42 r1, zp_178_43 r1, zs, zg_pos, if_neg, zI, ↓reduceIte, Int.reduceEq, Int.reduceLE, Int.reduceLT, Int.reduceAdd, Int.reduceSub, Int.reduceMul, Int.reduceNeg, zg_T, zbI_ok, zbL_ok, zbN_ok, zite1, zite2, zite3, zem, Int.cast_ofNat_Int, and_self, and_true, true_and, or_true, true_or, or_self, ite_not, if_true, if_false, not_true_eq_false, not_false_eq_true]
theorem e210_p {Q : zM} {n m : Nat} {d : Int} (r1 : zPR Q) (hd : 0 ≤ d ∧ d ≤ 5) (h0 : 0 ≤ Q 179 0 ∧ Q 179 0 ≤ 40) (h1 : 0 ≤ Q 179 1 ∧ Q 179 1 ≤ 40) (h2 : 0 ≤ Q 179 2 ∧ Q 179 2 ≤ 40) (hp : Q 178 6 ≤ 12) : ∀ (q : Nat) (t : Int), 0 ≤ t → t + q = Q 178 6 → zex 210 86 [] [(2, 178), (0, d), (0, t)] (zrc Q 210 1 (12 * d) 183 0 t) (zKs, n, m) = some ((0, Q 179 0 + Q 179 1 + Q 179 2), zrc Q 210 1 (12 * d) 183 0 (Q 178 6), (zKs, n, m))
  | 0, t, h3, h4 => by
    have r2 : zPR (zrc Q 210 1 (12 * d) 183 0 t) := zPR_t (fun r y => decide (210 ≤ r ∧ r ≤ 211)) (by decide +kernel) r1 (fun r y hr => zrc_r (by simp at hr; omega))
    have e9 := e209 (n := n) (m := m) r2 (by rw [zrc_r (by omega)]; exact h0) (by rw [zrc_r (by omega)]; exact h1) (by rw [zrc_r (by omega)]; exact h2)
    rw [zrc_r (by omega), zrc_r (by omega), zrc_r (by omega)] at e9
    rw [q210_86, zg_pos (zk_178 n m), zrc_r (by omega), if_pos (by omega), zg_pos (zk_178 n m), e9, zbI_ok, show t = Q 178 6 by omega]
  | q + 1, t, h3, h4 => by
    have zs := zrc_s1 (M := Q) (b := 210) (o := 12 * d) (s := 183) (p := 0) h3
    simp only [Int.reduceAdd, Int.zero_add] at zs
    rw [← e210_p (n := n) (m := m) r1 hd h0 h1 h2 hp q (t + 1) (by omega) (by omega), q210_86]
    simp (disch := omega) only [q210_102, q210_114, zk_178, zk_183, zk_184, zk_210, zk_211, zrc_r, zun, zp_178_7 r1, zp_178_8 r1, zp_178_46 r1, zp_178_47 r1, zs, zg_pos, if_neg, zI, ↓reduceIte, Int.reduceEq, Int.reduceLE, Int.reduceLT, Int.reduceAdd, Int.reduceSub, Int.reduceMul, Int.reduceNeg, zg_T, zbI_ok, zbL_ok, zbN_ok, zite1, zite2, zite3, zem, Int.cast_ofNat_Int, and_self, and_true, true_and, or_true, true_or, or_self, ite_not, if_true, if_false, not_true_eq_false, not_false_eq_true]
theorem e210 {P : zM} {n m : Nat} {d : Int} (r1 : zPR P) (hd : 0 ≤ d ∧ d ≤ 5) (h0 : 0 ≤ P 179 0 ∧ P 179 0 ≤ 40) (h1 : 0 ≤ P 179 1 ∧ P 179 1 ≤ 40) (h2 : 0 ≤ P 179 2 ∧ P 179 2 ≤ 40) (hp : 0 ≤ P 178 6 ∧ P 178 6 ≤ 12) : ∃ P1, zex 210 0 [] [(2, 178), (0, d), (9, 0)] P (zKs, n, m) = some ((0, P 179 0 + P 179 1 + P 179 2), P1, (zKs, n, m)) ∧ (∀ r y, (r < 201 ∨ 211 < r ∨ r = 202 ∨ r = 203 ∨ zown r y ≠ d) → P1 r y = P r y) ∧ P1 201 d = 5 ∧ (∀ a, 0 ≤ a → a ≤ 2 → P1 204 (3 * d + a) = P 179 a) ∧ (∀ i, 0 ≤ i → i < 120 → P1 205 (120 * d + i) = P 180 i ∧ P1 206 (120 * d + i) = P 181 i ∧ P1 207 (120 * d + i) = P 182 i) ∧ P1 208 d = P 178 5 ∧ P1 209 d = P 178 6 ∧ ∀ j, 0 ≤ j → j < P 178 6 → P1 210 (12 * d + j) = P 183 j ∧ P1 211 (12 * d + j) = P 184 j := by
  obtain ⟨Q, b1, b2, b3, b4⟩ : ∃ Q, zex 210 0 [] [(2, 178), (0, d), (9, 0)] P (zKs, n, m) = zex 210 31 [] [(2, 178), (0, d), (0, 0)] Q (zKs, n, m) ∧ (∀ r y, ((r ≠ 201 ∧ r ≠ 204) ∨ (r = 201 ∧ y ≠ d) ∨ (r = 204 ∧ (y < 3 * d ∨ 3 * d + 2 < y))) → Q r y = P r y) ∧ Q 201 d = 5 ∧ ∀ a, 0 ≤ a → a ≤ 2 → Q 204 (3 * d + a) = P 179 a := by
    refine ⟨zu (zu (zu (zu P 201 d 5) 204 (3 * d + 0) (P 179 0)) 204 (3 * d + 1) (P 179 1)) 204 (3 * d + 2) (P 179 2), ?_, fun r y hr => ?_, ?_, fun a a0 a1 => ?_⟩
    · simp (disch := omega) only [q210_0, q210_10, q210_12, q210_27, ↓b207, hd, zk_178, zk_179, zk_201, zk_204, zp_178_1 r1, zp_178_37 r1, zp_178_40 r1, zun, zg_pos, zI, ↓reduceIte, Int.reduceEq, Int.reduceLE, Int.reduceLT, Int.reduceAdd, Int.reduceSub, Int.reduceMul, Int.reduceNeg, zg_T, zbI_ok, zbL_ok, zbN_ok, zite1, zite2, zite3, zem, Int.cast_ofNat_Int, and_self, and_true, true_and, or_true, true_or, or_self, ite_not, if_true, if_false, not_true_eq_false, not_false_eq_true]
    · by_cases e : r = 204
      · subst e
        rw [zun2 (by omega), zun2 (by omega), zun2 (by omega), zun (by omega)]
      · rw [zun e, zun e, zun e]
        by_cases e1 : r = 201
        · rw [zun2 (by omega)]
        · rw [zun e1]
    · rw [zun (by omega), zun (by omega), zun (by omega), zus]
    · rcases (by omega : a = 0 ∨ a = 1 ∨ a = 2) with rfl | rfl | rfl
      · rw [zun2 (by omega), zun2 (by omega), zus]
      · rw [zun2 (by omega), zus]
      · rw [zus]
  have r2 : zPR Q := zPR_t (fun r y => decide (r = 201 ∨ r = 204)) (by decide +kernel) r1 (fun r y hr => b2 r y (by simp at hr; omega))
  have b5 := e210_l (n := n) (m := m) r2 hd 120 0 (by omega) (by omega)
  rw [zrc_0] at b5
  generalize hR : zrc Q 205 2 (120 * d) 180 0 120 = R at b5
  have b6 : ∀ r y, (r < 205 ∨ 207 < r ∨ y < 120 * d ∨ 120 * d + 120 ≤ y) → R r y = Q r y := fun r y hr => by
    rw [← hR]
    by_cases e : 205 ≤ r ∧ r ≤ 207
    · exact zrc_out (by omega)
    · exact zrc_r (by omega)
  have b7 : ∀ i, 0 ≤ i → i < 120 → R 205 (120 * d + i) = P 180 i ∧ R 206 (120 * d + i) = P 181 i ∧ R 207 (120 * d + i) = P 182 i := fun i i0 i1 => by
    rw [← hR, zrc_in (by omega), zrc_in (by omega), zrc_in (by omega), show 120 * d + i - 120 * d + 0 = i by omega]
    simp only [Int.reduceSub, Int.reduceAdd]
    exact ⟨b2 _ _ (by omega), b2 _ _ (by omega), b2 _ _ (by omega)⟩
  have r3 : zPR R := zPR_t (fun r y => decide (205 ≤ r ∧ r ≤ 207)) (by decide +kernel) r2 (fun r y hr => b6 r y (by simp at hr; omega))
  have b8 : zex 210 31 [] [(2, 178), (0, d), (0, 120)] R (zKs, n, m) = zex 210 86 [] [(2, 178), (0, d), (0, 0)] (zu (zu R 208 d (R 178 5)) 209 d (R 178 6)) (zKs, n, m) := by
    rw [q210_31]
    simp (disch := omega) only [q210_78, q210_84, zk_178, zk_208, zk_209, zp_178_44 r3, zp_178_45 r3, zun, zg_pos, ↓reduceIte, Int.reduceEq, Int.reduceLE, Int.reduceLT, Int.reduceAdd, Int.reduceSub, Int.reduceMul, Int.reduceNeg, zg_T, zbI_ok, zbL_ok, zbN_ok, zite1, zite2, zite3, zem, Int.cast_ofNat_Int, and_self, and_true, true_and, or_true, true_or, or_self, ite_not, if_true, if_false, not_true_eq_false, not_false_eq_true]
  have s1 : ∀ r y, r < 201 → R r y = P r y := fun r y hr => by rw [b6 _ _ (by omega), b2 _ _ (by omega)]
  rw [s1 _ _ (by omega), s1 _ _ (by omega)] at b8
  generalize hS : zu (zu R 208 d (P 178 5)) 209 d (P 178 6) = S at b8
  have b9 : ∀ r y, ((r ≠ 208 ∧ r ≠ 209) ∨ y ≠ d) → S r y = R r y := fun r y hr => by
    rw [← hS]
    by_cases e : y = d
    · rw [zun (by omega), zun (by omega)]
    · rw [zun2 e, zun2 e]
  have r4 : zPR S := zPR_t (fun r y => decide (208 ≤ r ∧ r ≤ 209)) (by decide +kernel) r3 (fun r y hr => b9 r y (by simp at hr; omega))
  have s2 : ∀ r y, r < 201 → S r y = P r y := fun r y hr => by rw [b9 _ _ (by omega), s1 _ _ hr]
  have b10 := e210_p (n := n) (m := m) r4 hd (by rw [s2 _ _ (by omega)]; exact h0) (by rw [s2 _ _ (by omega)]; exact h1) (by rw [s2 _ _ (by omega)]; exact h2) (by rw [s2 _ _ (by omega)]; exact hp.2) (P 178 6).toNat 0 (by omega) (by rw [s2 _ _ (by omega)]; omega)
  rw [zrc_0, s2 179 0 (by omega), s2 179 1 (by omega), s2 179 2 (by omega), s2 178 6 (by omega)] at b10
  refine ⟨_, (b1.trans (b5.trans (b8.trans b10))), fun r y hr => ?_, ?_, fun a a0 a1 => ?_, fun i i0 i1 => ?_, ?_, ?_, fun j j0 j1 => ?_⟩
  · have e1 : zrc S 210 1 (12 * d) 183 0 (P 178 6) r y = S r y := by
      by_cases e : 210 ≤ r ∧ r ≤ 211
      · have : zown r y = y / 12 := by unfold zown; rw [if_neg (by omega), if_neg (by omega), if_neg (by omega), if_pos (by omega)]
        exact zrc_out (by omega)
      · exact zrc_r (by omega)
    rw [e1]
    by_cases e : r = 208 ∨ r = 209
    · have := zow_lo (r := r) (y := y) (by omega)
      rw [b9 _ _ (by omega), b6 _ _ (by omega), b2 _ _ (by omega)]
    · rw [b9 _ _ (by omega)]
      by_cases e2 : 205 ≤ r ∧ r ≤ 207
      · have : zown r y = y / 120 := by unfold zown; rw [if_neg (by omega), if_neg (by omega), if_pos (by omega)]
        rw [b6 _ _ (by omega), b2 _ _ (by omega)]
      · rw [b6 _ _ (by omega)]
        by_cases e3 : r = 204
        · subst e3
          have : zown 204 y = y / 3 := by unfold zown; rw [if_neg (by omega), if_pos (by omega)]
          rw [b2 _ _ (by omega)]
        · by_cases e4 : r = 201
          · subst e4
            have := zow_lo (r := 201) (y := y) (by omega)
            rw [b2 _ _ (by omega)]
          · rw [b2 _ _ (by omega)]
  · rw [zrc_r (by omega), b9 _ _ (by omega), b6 _ _ (by omega), b3]
  · rw [zrc_r (by omega), b9 _ _ (by omega), b6 _ _ (by omega), b4 a a0 a1]
  · rw [zrc_r (by omega), zrc_r (by omega), zrc_r (by omega), b9 _ _ (by omega), b9 _ _ (by omega), b9 _ _ (by omega)]
    exact b7 i i0 i1
  · rw [zrc_r (by omega), ← hS, zun (by omega), zus]
  · rw [zrc_r (by omega), ← hS, zus]
  · rw [zrc_in (by omega), zrc_in (by omega), show 12 * d + j - 12 * d + 0 = j by omega]
    simp only [Int.reduceSub, Int.reduceAdd]
    exact ⟨s2 _ _ (by omega), s2 _ _ (by omega)⟩
theorem o_keep {q : Int} {M P : zM} (h : zRel q M P) (n m : Nat) (d : Int) : zOpn (q + 1) 124 210 [(0, d)] [(0, d), (9, 0)] M P n m := by
  obtain ⟨⟨r0, r1⟩, rc, rh, rp, rb, rs, rw0, rx, ro, rk, rt, rr⟩ := id h
  by_cases hd : 0 ≤ d ∧ d ≤ 5
  · obtain ⟨⟨a1, a2, a3⟩, ⟨b1, b2, b3⟩, c1, c2, c3⟩ := zcnt rc
    obtain ⟨P1, p1, u2, p3, p4, p5, p6, p7, p8⟩ := e210 (n := n) (m := m) r1 hd ⟨a2, a3⟩ ⟨b2, b3⟩ ⟨c2, c3⟩ ⟨rp.2.1, rp.2.2.1⟩
    have k0 : zPC (zu M (76 + 17 * d) 0 5) := zPC_zu r0 (zrf75 hd).1
    have ca := zCaT k0 n m hd
    have cb := zCa2 k0 n m
    have f5 : zu M (76 + 17 * d) 0 5 5 0 = P 179 0 ∧ zu M (76 + 17 * d) 0 5 9 0 = P 179 1 ∧ zu M (76 + 17 * d) 0 5 13 0 = P 179 2 := by
      rw [zun (by omega), zun (by omega), zun (by omega)]
      exact ⟨a1, b1, c1⟩
    have k2 := e2 (e := (9, 0)) ca cb (by omega) (by simp only [Int.reduceAdd]; omega) (by simp only [Int.reduceAdd]; omega) (by simp only [Int.reduceAdd]; omega)
    generalize hM1 : zkc (zu M (76 + 17 * d) 0 5) (78 + 17 * d) 2 = M1 at k2
    have u1 : ∀ r y, (r < 76 + 17 * d ∨ r = 77 + 17 * d ∨ r = 79 + 17 * d ∨ 92 + 17 * d < r ∨ (r = 76 + 17 * d ∧ y ≠ 0) ∨ (r = 78 + 17 * d ∧ y < 2)) → M1 r y = M r y := fun r y hr => by
      rw [← hM1]
      by_cases e : r = 78 + 17 * d
      · subst e
        rw [zkc_0 (by omega), zun (by omega)]
      · rw [zkc_r (by omega)]
        by_cases e2 : r = 76 + 17 * d
        · rw [zun2 (by omega)]
        · rw [zun e2]
    have k1 : zPC M1 := by
      refine zPC_t (fun r y => decide (76 ≤ r ∧ r ≤ 177) && (decide ((r - 76) % 17 = 0 ∧ y = 0) || decide ((r - 76) % 17 = 2 ∧ 2 ≤ y) || decide ((r - 76) % 17 = 4) || (decide (5 ≤ (r - 76) % 17) && (decide (y ≤ 0) || decide ((r - 76) % 17 % 4 ≠ 1))))) (by decide +kernel) r0 (fun r y hr => ?_)
      by_cases e0 : r < 76 + 17 * d ∨ 92 + 17 * d < r
      · exact u1 r y (by omega)
      · obtain ⟨j, hj⟩ : ∃ j, r = 76 + 17 * d + j := ⟨r - (76 + 17 * d), by omega⟩
        have hm : (r - 76) % 17 = j := by omega
        rw [hm] at hr
        by_cases e : 5 ≤ j ∧ j % 4 = 1 ∧ 0 < y
        · obtain ⟨e1, e2, e3⟩ := e
          have ea : r = 78 + 17 * d + 3 + 4 * ((j - 5) / 4) := by omega
          rw [ea, ← hM1, zkc_f (by omega) e3, zun (by omega)]
        · exact u1 r y (by simp at hr; omega)
    have e5' := e5 (d := (9, 0)) (d' := (9, 0)) (zCa2 k1 n m) (by simp only [Int.reduceAdd]; rw [u1 _ _ (by omega)]; omega) (by simp only [Int.reduceAdd]; rw [u1 _ _ (by omega)]; omega) (by simp only [Int.reduceAdd]; rw [u1 _ _ (by omega)]; omega)
    simp only [Int.reduceAdd] at e5'
    rw [u1 5 0 (by omega), u1 9 0 (by omega), u1 13 0 (by omega), a1, b1, c1] at e5'
    have hh : zRel q M1 P1 := by
      refine ⟨⟨k1, zPR_t (fun r y => decide (201 ≤ r ∧ r ≤ 211)) (by decide +kernel) r1 (fun r y hr => u2 r y (by simp at hr; omega))⟩, rc.of (by (intros; first | rfl | (simp (disch := omega) only [u1, u2, and_self]))) (by (intros; first | rfl | (simp (disch := omega) only [u1, u2, and_self]))) (by (intros; first | rfl | (simp (disch := omega) only [u1, u2, and_self]))), (by (simp (disch := omega) only [u1, u2]; exact rh)), rp.of (by (intros; first | rfl | (simp (disch := omega) only [u1, u2, and_self]))) (by (intros; first | rfl | (simp (disch := omega) only [u1, u2, and_self]))) (by (intros; first | rfl | (simp (disch := omega) only [u1, u2, and_self]))) (by (intros; first | rfl | (simp (disch := omega) only [u1, u2, and_self]))), rb.of (by (intros; first | rfl | (simp (disch := omega) only [u1, u2, and_self]))) (by (intros; first | rfl | (simp (disch := omega) only [u1, u2, and_self]))) (by (intros; first | rfl | (simp (disch := omega) only [u1, u2, and_self]))), rs.of (by (intros; first | rfl | (simp (disch := omega) only [u1, u2, and_self]))) (by (intros; first | rfl | (simp (disch := omega) only [u1, u2, and_self]))) (by (intros; first | rfl | (simp (disch := omega) only [u1, u2, and_self]))) (by (intros; first | rfl | (simp (disch := omega) only [u1, u2, and_self]))), rw0.of (by (intros; first | rfl | (simp (disch := omega) only [u1, u2, and_self]))) (by (intros; first | rfl | (simp (disch := omega) only [u1, u2, and_self]))) (by (intros; first | rfl | (simp (disch := omega) only [u1, u2, and_self]))) (by (intros; first | rfl | (simp (disch := omega) only [u1, u2, and_self]))) (by (intros; first | rfl | (simp (disch := omega) only [u1, u2, and_self]))) (by (intros; first | rfl | (simp (disch := omega) only [u1, u2, and_self]))), rx.of (by (intros; first | rfl | (simp (disch := omega) only [u1, u2, and_self]))) (by (intros; first | rfl | (simp (disch := omega) only [u1, u2, and_self]))) (by (intros; first | rfl | (simp (disch := omega) only [u1, u2, and_self]))) (by (intros; first | rfl | (simp (disch := omega) only [u1, u2, and_self]))), ro.of (by (intros; first | rfl | (simp (disch := omega) only [u1, u2, and_self]))) (by (intros; first | rfl | (simp (disch := omega) only [u1, u2, and_self]))) (by (intros; first | rfl | (simp (disch := omega) only [u1, u2, and_self]))) (by (intros; first | rfl | (simp (disch := omega) only [u1, u2, and_self]))), rk.of (by (intros; first | rfl | (simp (disch := omega) only [u1, u2, and_self]))) (by (intros; first | rfl | (simp (disch := omega) only [u1, u2, and_self]))) (by (intros; first | rfl | (simp (disch := omega) only [u1, u2, and_self]))) (by (intros; first | rfl | (simp (disch := omega) only [u1, u2, and_self]))) (by (intros; first | rfl | (simp (disch := omega) only [u1, u2, and_self]))), rt.upd (d := d) (fun r y a b c => u1 r y (by omega)) (fun r y a b c => u2 r y (by omega)) ?_, (by (simp (disch := omega) only [u1, u2]; exact rr))⟩
      unfold zRt1
      rw [p3, p6, p7]
      refine ⟨by rw [← hM1, zkc_r (by omega), zus], by omega, fun _ c => by omega, fun _ => ⟨?_, ?_, rh.2, ?_⟩⟩
      · refine rc.cp (fun a a0 a1 => ?_) p4 p5
        rw [← hM1, zkc_n ⟨a0, a1⟩, zun (by omega)]
        refine ⟨rfl, fun i i0 i1 => ?_⟩
        obtain ⟨x1, x2, x3⟩ := zkc_v (M := zu M (76 + 17 * d) 0 5) (c := 78 + 17 * d) (d := 2) (a := a) (i := i) (by omega) ⟨a0, a1⟩ ⟨i0, by rw [zun (by omega)]; exact i1⟩
        rw [x1, x2, x3, zun (by omega), zun (by omega), zun (by omega)]
        exact ⟨rfl, rfl, rfl⟩
      · rw [← hM1, zkc_3, zun (by omega)]
        exact rh.1
      · refine rp.cp ?_ (fun y y0 y1 => ?_) rfl p8
        · rw [← hM1, zkc_2, zun (by omega)]
        · rw [← hM1, zkc_p (by omega) ⟨y0, y1⟩, zun (by omega)]
    refine ⟨_, M1, P1, ?_, fun r y hr => u1 r y (by omega), p1, fun r y hr => u2 r y (by omega), hh.mono (by omega)⟩
    simp (disch := omega) only [q124_0, ↓b136, hd, zk_1, zk_2, zk_75, zp_1_0 r0, zp_1_0 k1, zp_1_8 r0, zrp75 r0 hd, (zrk75 n m hd).1, (zrp76 r0 hd).2, ca.2.1, zun, zun2, k2, e5', zg_pos, ↓reduceIte, Int.reduceEq, Int.reduceLE, Int.reduceLT, Int.reduceAdd, Int.reduceSub, Int.reduceMul, Int.reduceNeg, zg_T, zbI_ok, zbL_ok, zbN_ok, zite1, zite2, zite3, zem, Int.cast_ofNat_Int, and_self, and_true, true_and, or_true, true_or, or_self, ite_not, if_true, if_false, not_true_eq_false, not_false_eq_true]
  · refine zOpn_same h (-1) ?_ ?_
    · simp only [q124_0, ↓b136, hd, ↓reduceIte, Int.reduceEq, Int.reduceLE, Int.reduceLT, Int.reduceAdd, Int.reduceSub, Int.reduceMul, Int.reduceNeg, zg_T, zbI_ok, zbL_ok, zbN_ok, zite1, zite2, zite3, zem, Int.cast_ofNat_Int, and_self, and_true, true_and, or_true, true_or, or_self, ite_not, if_true, if_false, not_true_eq_false, not_false_eq_true]
    · simp only [q210_0, ↓b207, hd, ↓reduceIte, Int.reduceEq, Int.reduceLE, Int.reduceLT, Int.reduceAdd, Int.reduceSub, Int.reduceMul, Int.reduceNeg, zg_T, zbI_ok, zbL_ok, zbN_ok, zite1, zite2, zite3, zem, Int.cast_ofNat_Int, and_self, and_true, true_and, or_true, true_or, or_self, ite_not, if_true, if_false, not_true_eq_false, not_false_eq_true]
