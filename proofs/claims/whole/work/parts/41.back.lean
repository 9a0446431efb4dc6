/-! BACK -/
theorem e212_l {Q : zM} {n m : Nat} {d x : Int} (r1 : zPR Q) (hd : 0 ≤ d ∧ d ≤ 5) : ∀ (q : Nat) (t : Int), 0 ≤ t → t + q = 120 → zex 212 29 [] [(2, 178), (0, d), (0, x), (0, t)] (zrc Q 180 2 0 205 (120 * d) t) (zKs, n, m) = zex 212 29 [] [(2, 178), (0, d), (0, x), (0, 120)] (zrc Q 180 2 0 205 (120 * d) 120) (zKs, n, m)
  | 0, t, h0, h1 => by
    rw [show t = 120 by omega]
  | q + 1, t, h0, h1 => by
    have zs := zrc_s (M := Q) (b := 180) (o := 0) (s := 205) (p := 120 * d) h0
    simp only [Int.reduceAdd, Int.zero_add] at zs
    rw [← e212_l (n := n) (m := m) (x := x) r1 hd q (t + 1) (by omega) (by omega), q212_29]
    simp (disch := omega) only [q212_44, q212_56, q212_68, zk_178, zk_180, zk_181, zk_182, zk_205, zk_206, zk_207, zrc_r, zun, zp_178_2 r1, zp_178_3 r1, zp_178_4 r1, zp_178_41 r1, zp_178_42 r1, zp_178_43 r1, zs, zg_pos, if_neg, zI, ↓reduceIte, Int.reduceEq, Int.reduceLE, Int.reduceLT, Int.reduceAdd, Int.reduceSub, Int.reduceMul, Int.reduceNeg, zg_T, zbI_ok, zbL_ok, zbN_ok, zite1, zite2, zite3, zem, Int.cast_ofNat_Int, and_self, and_true, true_and, or_true, true_or, or_self, ite_not, if_true, if_false, not_true_eq_false, not_false_eq_true]
theorem e212_p {Q : zM} {n m : Nat} {d x : Int} (r1 : zPR Q) (hd : 0 ≤ d ∧ d ≤ 5) (h0 : 0 ≤ Q 179 0 ∧ Q 179 0 ≤ 40) (h1 : 0 ≤ Q 179 1 ∧ Q 179 1 ≤ 40) (h2 : 0 ≤ Q 179 2 ∧ Q 179 2 ≤ 40) (hp : Q 178 6 ≤ 12) : ∀ (q : Nat) (t : Int), 0 ≤ t → t + q = Q 178 6 → zex 212 84 [] [(2, 178), (0, d), (0, x), (0, t)] (zrc Q 183 1 0 210 (12 * d) t) (zKs, n, m) = some ((0, Q 179 0 + Q 179 1 + Q 179 2), zrc Q 183 1 0 210 (12 * d) (Q 178 6), (zKs, n, m))
  | 0, t, h3, h4 => by
    have r2 : zPR (zrc Q 183 1 0 210 (12 * d) t) := zPR_t (fun r y => decide (183 ≤ r ∧ r ≤ 184)) (by decide +kernel) r1 (fun r y hr => zrc_r (by simp at hr; omega))
    have e9 := e209 (n := n) (m := m) r2 (by rw [zrc_r (by omega)]; exact h0) (by rw [zrc_r (by omega)]; exact h1) (by rw [zrc_r (by omega)]; exact h2)
    rw [zrc_r (by omega), zrc_r (by omega), zrc_r (by omega)] at e9
    rw [q212_84, zg_pos (zk_178 n m), zrc_r (by omega), if_pos (by omega), zg_pos (zk_178 n m), e9, zbI_ok, show t = Q 178 6 by omega]
  | q + 1, t, h3, h4 => by
    have zs := zrc_s1 (M := Q) (b := 183) (o := 0) (s := 210) (p := 12 * d) h3
    simp only [Int.reduceAdd, Int.zero_add] at zs
    rw [← e212_p (n := n) (m := m) (x := x) r1 hd h0 h1 h2 hp q (t + 1) (by omega) (by omega), q212_84]
    simp (disch := omega) only [q212_100, q212_112, zk_178, zk_183, zk_184, zk_210, zk_211, zrc_r, zun, zp_178_7 r1, zp_178_8 r1, zp_178_46 r1, zp_178_47 r1, zs, zg_pos, if_neg, zI, ↓reduceIte, Int.reduceEq, Int.reduceLE, Int.reduceLT, Int.reduceAdd, Int.reduceSub, Int.reduceMul, Int.reduceNeg, zg_T, zbI_ok, zbL_ok, zbN_ok, zite1, zite2, zite3, zem, Int.cast_ofNat_Int, and_self, and_true, true_and, or_true, true_or, or_self, ite_not, if_true, if_false, not_true_eq_false, not_false_eq_true]
theorem e211 {q : Int} {M P : zM} (h : zRel q M P) (hq : q ≤ 1000) (d : Int) : (¬ (0 ≤ d ∧ d ≤ 5) ∧ (∀ n m, zex 211 0 [] [(2, 178), (0, d)] P (zKs, n, m) = some ((0, -1), P, (zKs, n, m))) ∧ ∀ n m, zex 139 0 [] [(2, 1), (0, d)] M (zKs, n, m) = some ((0, -1), M, (zKs, n, m))) ∨
    ((0 ≤ d ∧ d ≤ 5) ∧ (∃ v, v ≠ 0 ∧ (∀ n m, zex 211 0 [] [(2, 178), (0, d)] P (zKs, n, m) = some ((0, v), zu P 178 25 (P 178 25 + 1), (zKs, n, m))) ∧ ∀ n m, zex 139 0 [] [(2, 1), (0, d)] M (zKs, n, m) = some ((0, v), zu M 1 9 (P 178 25 + 1), (zKs, n, m)))) ∨
    ((0 ≤ d ∧ d ≤ 5) ∧ P 201 d = 5 ∧ (∀ n m, zex 211 0 [] [(2, 178), (0, d)] P (zKs, n, m) = some ((0, 0), P, (zKs, n, m))) ∧ ∀ n m, zex 139 0 [] [(2, 1), (0, d)] M (zKs, n, m) = some ((0, 0), M, (zKs, n, m))) := by
  obtain ⟨⟨r0, r1⟩, rc, rh, rp, rb, rs, rw0, rx, ro, rk, rt, rr⟩ := id h
  by_cases hd : 0 ≤ d ∧ d ≤ 5
  · obtain ⟨t1, t2, t3, t4⟩ := rt.at hd
    by_cases hz : P 201 d = 0
    · refine .inr (.inl ⟨hd, -11, by omega, fun n m => ?_, fun n m => ?_⟩)
      · simp (disch := omega) only [q211_0, q211_25, ↓b207, hd, hz, zk_178, zk_201, zp_178_37 r1, zrf2 h hq, zg_pos, ↓reduceIte, Int.reduceEq, Int.reduceLE, Int.reduceLT, Int.reduceAdd, Int.reduceSub, Int.reduceMul, Int.reduceNeg, zg_T, zbI_ok, zbL_ok, zbN_ok, zite1, zite2, zite3, zem, Int.cast_ofNat_Int, and_self, and_true, true_and, or_true, true_or, or_self, ite_not, if_true, if_false, not_true_eq_false, not_false_eq_true]
      · simp (disch := omega) only [q139_0, q139_27, ↓b136, hd, t1, hz, zk_1, zk_75, zp_1_8 r0, zrp75 r0 hd, (zrk75 n m hd).1, zrf1 h hq, zg_pos, ↓reduceIte, Int.reduceEq, Int.reduceLE, Int.reduceLT, Int.reduceAdd, Int.reduceSub, Int.reduceMul, Int.reduceNeg, zg_T, zbI_ok, zbL_ok, zbN_ok, zite1, zite2, zite3, zem, Int.cast_ofNat_Int, and_self, and_true, true_and, or_true, true_or, or_self, ite_not, if_true, if_false, not_true_eq_false, not_false_eq_true]
    · by_cases hz5 : P 201 d = 5
      · refine .inr (.inr ⟨hd, hz5, fun n m => ?_, fun n m => ?_⟩)
        · simp (disch := omega) only [q211_0, q211_25, ↓b207, hd, hz5, zk_178, zk_201, zp_178_37 r1, zg_pos, ↓reduceIte, Int.reduceEq, Int.reduceLE, Int.reduceLT, Int.reduceAdd, Int.reduceSub, Int.reduceMul, Int.reduceNeg, zg_T, zbI_ok, zbL_ok, zbN_ok, zite1, zite2, zite3, zem, Int.cast_ofNat_Int, and_self, and_true, true_and, or_true, true_or, or_self, ite_not, if_true, if_false, not_true_eq_false, not_false_eq_true]
        · simp (disch := omega) only [q139_0, q139_27, ↓b136, hd, t1, hz5, zk_1, zk_75, zp_1_8 r0, zrp75 r0 hd, (zrk75 n m hd).1, zg_pos, ↓reduceIte, Int.reduceEq, Int.reduceLE, Int.reduceLT, Int.reduceAdd, Int.reduceSub, Int.reduceMul, Int.reduceNeg, zg_T, zbI_ok, zbL_ok, zbN_ok, zite1, zite2, zite3, zem, Int.cast_ofNat_Int, and_self, and_true, true_and, or_true, true_or, or_self, ite_not, if_true, if_false, not_true_eq_false, not_false_eq_true]
      · refine .inr (.inl ⟨hd, -12, by omega, fun n m => ?_, fun n m => ?_⟩)
        · simp (disch := omega) only [q211_0, q211_25, ↓b207, hd, hz, hz5, zk_178, zk_201, zp_178_37 r1, zrf2 h hq, zg_pos, ↓reduceIte, Int.reduceEq, Int.reduceLE, Int.reduceLT, Int.reduceAdd, Int.reduceSub, Int.reduceMul, Int.reduceNeg, zg_T, zbI_ok, zbL_ok, zbN_ok, zite1, zite2, zite3, zem, Int.cast_ofNat_Int, and_self, and_true, true_and, or_true, true_or, or_self, ite_not, if_true, if_false, not_true_eq_false, not_false_eq_true]
        · simp (disch := omega) only [q139_0, q139_27, ↓b136, hd, t1, hz, hz5, zk_1, zk_75, zp_1_8 r0, zrp75 r0 hd, (zrk75 n m hd).1, zrf1 h hq, zg_pos, ↓reduceIte, Int.reduceEq, Int.reduceLE, Int.reduceLT, Int.reduceAdd, Int.reduceSub, Int.reduceMul, Int.reduceNeg, zg_T, zbI_ok, zbL_ok, zbN_ok, zite1, zite2, zite3, zem, Int.cast_ofNat_Int, and_self, and_true, true_and, or_true, true_or, or_self, ite_not, if_true, if_false, not_true_eq_false, not_false_eq_true]
  · refine .inl ⟨hd, fun n m => ?_, fun n m => ?_⟩
    · simp only [q211_0, q211_25, ↓b207, hd, ↓reduceIte, Int.reduceEq, Int.reduceLE, Int.reduceLT, Int.reduceAdd, Int.reduceSub, Int.reduceMul, Int.reduceNeg, zg_T, zbI_ok, zbL_ok, zbN_ok, zite1, zite2, zite3, zem, Int.cast_ofNat_Int, and_self, and_true, true_and, or_true, true_or, or_self, ite_not, if_true, if_false, not_true_eq_false, not_false_eq_true]
    · simp only [q139_0, ↓b136, hd, ↓reduceIte, Int.reduceEq, Int.reduceLE, Int.reduceLT, Int.reduceAdd, Int.reduceSub, Int.reduceMul, Int.reduceNeg, zg_T, zbI_ok, zbL_ok, zbN_ok, zite1, zite2, zite3, zem, Int.cast_ofNat_Int, and_self, and_true, true_and, or_true, true_or, or_self, ite_not, if_true, if_false, not_true_eq_false, not_false_eq_true]
theorem e212 {P : zM} {n m : Nat} {d : Int} (r1 : zPR P) (hd : 0 ≤ d ∧ d ≤ 5) (hl : zex 211 0 [] [(2, 178), (0, d)] P (zKs, n, m) = some ((0, 0), P, (zKs, n, m))) (h0 : 0 ≤ P 204 (3 * d + 0) ∧ P 204 (3 * d + 0) ≤ 40) (h1 : 0 ≤ P 204 (3 * d + 1) ∧ P 204 (3 * d + 1) ≤ 40) (h2 : 0 ≤ P 204 (3 * d + 2) ∧ P 204 (3 * d + 2) ≤ 40) (hp : 0 ≤ P 209 d ∧ P 209 d ≤ 12) : ∃ P1, zex 212 0 [] [(2, 178), (0, d), (9, 0), (9, 0)] P (zKs, n, m) = some ((0, P 204 (3 * d + 0) + P 204 (3 * d + 1) + P 204 (3 * d + 2)), P1, (zKs, n, m)) ∧ (∀ r y, (r < 178 ∨ 184 < r ∨ (r = 178 ∧ y ≠ 5 ∧ y ≠ 6)) → P1 r y = P r y) ∧ (∀ a, 0 ≤ a → a ≤ 2 → P1 179 a = P 204 (3 * d + a)) ∧ (∀ i, 0 ≤ i → i < 120 → P1 180 i = P 205 (120 * d + i) ∧ P1 181 i = P 206 (120 * d + i) ∧ P1 182 i = P 207 (120 * d + i)) ∧ P1 178 5 = P 208 d ∧ P1 178 6 = P 209 d ∧ ∀ j, 0 ≤ j → j < P 209 d → P1 183 j = P 210 (12 * d + j) ∧ P1 184 j = P 211 (12 * d + j) := by
  obtain ⟨Q, b1, b2, b4⟩ : ∃ Q, zex 212 0 [] [(2, 178), (0, d), (9, 0), (9, 0)] P (zKs, n, m) = zex 212 29 [] [(2, 178), (0, d), (0, 0), (0, 0)] Q (zKs, n, m) ∧ (∀ r y, r ≠ 179 → Q r y = P r y) ∧ ∀ a, 0 ≤ a → a ≤ 2 → Q 179 a = P 204 (3 * d + a) := by
    refine ⟨zu (zu (zu P 179 0 (P 204 (3 * d + 0))) 179 1 (P 204 (3 * d + 1))) 179 2 (P 204 (3 * d + 2)), ?_, fun r y hr => by rw [zun hr, zun hr, zun hr], fun a a0 a1 => ?_⟩
    · simp (disch := omega) only [q212_0, q212_10, q212_25, hl, zk_178, zk_179, zk_204, zp_178_1 r1, zp_178_40 r1, zun, zg_pos, zI, ↓reduceIte, Int.reduceEq, Int.reduceLE, Int.reduceLT, Int.reduceAdd, Int.reduceSub, Int.reduceMul, Int.reduceNeg, zg_T, zbI_ok, zbL_ok, zbN_ok, zite1, zite2, zite3, zem, Int.cast_ofNat_Int, and_self, and_true, true_and, or_true, true_or, or_self, ite_not, if_true, if_false, not_true_eq_false, not_false_eq_true]
    · rcases (by omega : a = 0 ∨ a = 1 ∨ a = 2) with rfl | rfl | rfl
      · rw [zun2 (by omega), zun2 (by omega), zus]
      · rw [zun2 (by omega), zus]
      · rw [zus]
  have r2 : zPR Q := zPR_t (fun r y => decide (r = 179)) (by decide +kernel) r1 (fun r y hr => b2 r y (by simpa using hr))
  have b5 := e212_l (n := n) (m := m) (x := 0) r2 hd 120 0 (by omega) (by omega)
  rw [zrc_0] at b5
  generalize hR : zrc Q 180 2 0 205 (120 * d) 120 = R at b5
  have b6 : ∀ r y, (r < 180 ∨ 182 < r) → R r y = Q r y := fun r y hr => by
    rw [← hR]
    exact zrc_r (by omega)
  have b7 : ∀ i, 0 ≤ i → i < 120 → R 180 i = P 205 (120 * d + i) ∧ R 181 i = P 206 (120 * d + i) ∧ R 182 i = P 207 (120 * d + i) := fun i i0 i1 => by
    rw [← hR, zrc_in (by omega), zrc_in (by omega), zrc_in (by omega), show i - 0 + 120 * d = 120 * d + i by omega]
    simp only [Int.reduceSub, Int.reduceAdd]
    exact ⟨b2 _ _ (by omega), b2 _ _ (by omega), b2 _ _ (by omega)⟩
  have r3 : zPR R := zPR_t (fun r y => decide (180 ≤ r ∧ r ≤ 182)) (by decide +kernel) r2 (fun r y hr => b6 r y (by simp at hr; omega))
  have s1 : ∀ r y, (r < 179 ∨ 182 < r) → R r y = P r y := fun r y hr => by rw [b6 _ _ (by omega), b2 _ _ (by omega)]
  have b8 : zex 212 29 [] [(2, 178), (0, d), (0, 0), (0, 120)] R (zKs, n, m) = zex 212 84 [] [(2, 178), (0, d), (0, 0), (0, 0)] (zu (zu R 178 5 (R 208 d)) 178 6 (R 209 d)) (zKs, n, m) := by
    rw [q212_29]
    simp (disch := omega) only [q212_76, q212_82, zk_178, zk_208, zk_209, zp_178_44 r3, zp_178_45 r3, zun, zun2, zg_pos, ↓reduceIte, Int.reduceEq, Int.reduceLE, Int.reduceLT, Int.reduceAdd, Int.reduceSub, Int.reduceMul, Int.reduceNeg, zg_T, zbI_ok, zbL_ok, zbN_ok, zite1, zite2, zite3, zem, Int.cast_ofNat_Int, and_self, and_true, true_and, or_true, true_or, or_self, ite_not, if_true, if_false, not_true_eq_false, not_false_eq_true]
  rw [s1 208 _ (by omega), s1 209 _ (by omega)] at b8
  generalize hS : zu (zu R 178 5 (P 208 d)) 178 6 (P 209 d) = S at b8
  have b9 : ∀ r y, (r ≠ 178 ∨ (y ≠ 5 ∧ y ≠ 6)) → S r y = R r y := fun r y hr => by
    rw [← hS]
    by_cases e : r = 178
    · rw [zun2 (by omega), zun2 (by omega)]
    · rw [zun e, zun e]
  have r4 : zPR S := zPR_t (fun r y => decide (r = 178) && decide (y = 5 ∨ y = 6)) (by decide +kernel) r3 (fun r y hr => b9 r y (by simp at hr; omega))
  have s3 : S 178 6 = P 209 d := by rw [← hS, zus]
  have s4 : ∀ a, 0 ≤ a → a ≤ 2 → S 179 a = P 204 (3 * d + a) := fun a a0 a1 => by rw [b9 _ _ (by omega), b6 _ _ (by omega), b4 a a0 a1]
  have b10 := e212_p (n := n) (m := m) (x := 0) r4 hd (by rw [s4 0 (by omega) (by omega)]; exact h0) (by rw [s4 1 (by omega) (by omega)]; exact h1) (by rw [s4 2 (by omega) (by omega)]; exact h2) (by rw [s3]; exact hp.2) (P 209 d).toNat 0 (by omega) (by rw [s3]; omega)
  rw [zrc_0, s4 0 (by omega) (by omega), s4 1 (by omega) (by omega), s4 2 (by omega) (by omega), s3] at b10
  refine ⟨_, (b1.trans (b5.trans (b8.trans b10))), fun r y hr => ?_, fun a a0 a1 => ?_, fun i i0 i1 => ?_, ?_, ?_, fun j j0 j1 => ?_⟩
  · rw [zrc_r (by omega), b9 _ _ (by omega), s1 _ _ (by omega)]
  · rw [zrc_r (by omega), s4 a a0 a1]
  · rw [zrc_r (by omega), zrc_r (by omega), zrc_r (by omega), b9 _ _ (by omega), b9 _ _ (by omega), b9 _ _ (by omega)]
    exact b7 i i0 i1
  · rw [zrc_r (by omega), ← hS, zun2 (by omega), zus]
  · rw [zrc_r (by omega), s3]
  · rw [zrc_in (by omega), zrc_in (by omega), show j - 0 + 12 * d = 12 * d + j by omega]
    simp only [Int.reduceSub, Int.reduceAdd]
    rw [b9 _ _ (by omega), b9 _ _ (by omega)]
    exact ⟨s1 _ _ (by omega), s1 _ _ (by omega)⟩
theorem o_back {q : Int} {M P : zM} (h : zRel q M P) (hq : q ≤ 1000) (n m : Nat) (d : Int) : zOpn (q + 1) 125 212 [(0, d), (9, 0)] [(0, d), (9, 0), (9, 0)] M P n m := by
  obtain ⟨⟨r0, r1⟩, rc, rh, rp, rb, rs, rw0, rx, ro, rk, rt, rr⟩ := id h
  rcases e211 h hq d with ⟨hd, l1, l2⟩ | ⟨hd, v, hv, l1, l2⟩ | ⟨hd, h5, l1, l2⟩
  · refine zOpn_same h (-1) ?_ ?_
    · simp only [q125_0, l2, zk_1, ↓reduceIte, Int.reduceEq, Int.reduceLE, Int.reduceLT, Int.reduceAdd, Int.reduceSub, Int.reduceMul, Int.reduceNeg, zg_T, zbI_ok, zbL_ok, zbN_ok, zite1, zite2, zite3, zem, Int.cast_ofNat_Int, and_self, and_true, true_and, or_true, true_or, or_self, ite_not, if_true, if_false, not_true_eq_false, not_false_eq_true]
    · simp only [q212_0, l1, zk_178, ↓reduceIte, Int.reduceEq, Int.reduceLE, Int.reduceLT, Int.reduceAdd, Int.reduceSub, Int.reduceMul, Int.reduceNeg, zg_T, zbI_ok, zbL_ok, zbN_ok, zite1, zite2, zite3, zem, Int.cast_ofNat_Int, and_self, and_true, true_and, or_true, true_or, or_self, ite_not, if_true, if_false, not_true_eq_false, not_false_eq_true]
  · refine zOpn_rf h v ?_ ?_
    · simp only [q125_0, l2, hv, zk_1, ↓reduceIte, Int.reduceEq, Int.reduceLE, Int.reduceLT, Int.reduceAdd, Int.reduceSub, Int.reduceMul, Int.reduceNeg, zg_T, zbI_ok, zbL_ok, zbN_ok, zite1, zite2, zite3, zem, Int.cast_ofNat_Int, and_self, and_true, true_and, or_true, true_or, or_self, ite_not, if_true, if_false, not_true_eq_false, not_false_eq_true]
    · simp only [q212_0, l1, hv, zk_178, ↓reduceIte, Int.reduceEq, Int.reduceLE, Int.reduceLT, Int.reduceAdd, Int.reduceSub, Int.reduceMul, Int.reduceNeg, zg_T, zbI_ok, zbL_ok, zbN_ok, zite1, zite2, zite3, zem, Int.cast_ofNat_Int, and_self, and_true, true_and, or_true, true_or, or_self, ite_not, if_true, if_false, not_true_eq_false, not_false_eq_true]
  · obtain ⟨t1, t2, t3, t4⟩ := rt.at hd
    obtain ⟨f1, f2, f3, f4⟩ := t4 h5
    obtain ⟨a1, a2, a3, -⟩ := f1 0 (by omega) (by omega)
    obtain ⟨b1, b2, b3, -⟩ := f1 1 (by omega) (by omega)
    obtain ⟨c1, c2, c3, -⟩ := f1 2 (by omega) (by omega)
    dsimp only at a1 a2 a3 b1 b2 b3 c1 c2 c3
    obtain ⟨P1, p1, u2, p4, p5, p6, p7, p8⟩ := e212 (n := n) (m := m) r1 hd (l1 n m) ⟨a2, a3⟩ ⟨b2, b3⟩ ⟨c2, c3⟩ ⟨f4.2.1, f4.2.2.1⟩
    have ca := zCaT r0 n m hd
    have cb := zCa2 r0 n m
    rw [show 78 + 17 * d + 3 + 4 * 0 = 78 + 17 * d + 3 by omega] at a1
    rw [show 78 + 17 * d + 3 + 4 * 1 = 78 + 17 * d + 7 by omega] at b1
    rw [show 78 + 17 * d + 3 + 4 * 2 = 78 + 17 * d + 11 by omega] at c1
    have k2 := e2 (e := (9, 0)) cb ca (by omega) (by omega) (by omega) (by omega)
    generalize hM1 : zkc M 2 (78 + 17 * d) = M1 at k2
    have u1 : ∀ r y, (r < 2 ∨ r = 3 ∨ 16 < r ∨ (r = 2 ∧ y < 2)) → M1 r y = M r y := fun r y hr => by
      rw [← hM1]
      by_cases e : r = 2
      · subst e
        rw [zkc_0 (by omega)]
      · rw [zkc_r (by omega)]
    have k1 : zPC M1 := by
      refine zPC_t (fun r y => (decide (r = 2) && decide (2 ≤ y)) || decide (r = 4) || (decide (5 ≤ r ∧ r ≤ 16) && (decide (y ≤ 0) || decide (r % 4 ≠ 1)))) (by decide +kernel) r0 (fun r y hr => ?_)
      by_cases e : 5 ≤ r ∧ r ≤ 16 ∧ r % 4 = 1 ∧ 0 < y
      · obtain ⟨e1, e2, e3, e4⟩ := e
        have ea : r = 2 + 3 + 4 * ((r - 5) / 4) := by omega
        rw [ea, ← hM1, zkc_f (by omega) e4]
      · exact u1 r y (by simp at hr; omega)
    have n0 : M1 5 0 = P 204 (3 * d + 0) := by
      have := zkc_n (M := M) (c := 2) (d := 78 + 17 * d) (a := 0) (by omega)
      simp only [Int.reduceMul, Int.reduceAdd] at this
      rw [← hM1, this, show 78 + 17 * d + 3 + 0 = 78 + 17 * d + 3 by omega, a1]
    have n1 : M1 9 0 = P 204 (3 * d + 1) := by
      have := zkc_n (M := M) (c := 2) (d := 78 + 17 * d) (a := 1) (by omega)
      simp only [Int.reduceMul, Int.reduceAdd] at this
      rw [← hM1, this, show 78 + 17 * d + 3 + 4 = 78 + 17 * d + 7 by omega, b1]
    have n2 : M1 13 0 = P 204 (3 * d + 2) := by
      have := zkc_n (M := M) (c := 2) (d := 78 + 17 * d) (a := 2) (by omega)
      simp only [Int.reduceMul, Int.reduceAdd] at this
      rw [← hM1, this, show 78 + 17 * d + 3 + 8 = 78 + 17 * d + 11 by omega, c1]
    have e5' := e5 (d := (9, 0)) (d' := (9, 0)) (zCa2 k1 n m) (by simp only [Int.reduceAdd]; omega) (by simp only [Int.reduceAdd]; omega) (by simp only [Int.reduceAdd]; omega)
    simp only [Int.reduceAdd] at e5'
    rw [n0, n1, n2] at e5'
    have hh : zRel q M1 P1 := by
      refine ⟨⟨k1, zPR_t (fun r y => decide (179 ≤ r ∧ r ≤ 184) || (decide (r = 178) && decide (y = 5 ∨ y = 6))) (by decide +kernel) r1 (fun r y hr => u2 r y (by simp at hr; omega))⟩, ?_, ?_, ?_, rb.of (by (intros; first | rfl | (simp (disch := omega) only [u1, u2, and_self]))) (by (intros; first | rfl | (simp (disch := omega) only [u1, u2, and_self]))) (by (intros; first | rfl | (simp (disch := omega) only [u1, u2, and_self]))), rs.of (by (intros; first | rfl | (simp (disch := omega) only [u1, u2, and_self]))) (by (intros; first | rfl | (simp (disch := omega) only [u1, u2, and_self]))) (by (intros; first | rfl | (simp (disch := omega) only [u1, u2, and_self]))) (by (intros; first | rfl | (simp (disch := omega) only [u1, u2, and_self]))), rw0.of (by (intros; first | rfl | (simp (disch := omega) only [u1, u2, and_self]))) (by (intros; first | rfl | (simp (disch := omega) only [u1, u2, and_self]))) (by (intros; first | rfl | (simp (disch := omega) only [u1, u2, and_self]))) (by (intros; first | rfl | (simp (disch := omega) only [u1, u2, and_self]))) (by (intros; first | rfl | (simp (disch := omega) only [u1, u2, and_self]))) (by (intros; first | rfl | (simp (disch := omega) only [u1, u2, and_self]))), rx.of (by (intros; first | rfl | (simp (disch := omega) only [u1, u2, and_self]))) (by (intros; first | rfl | (simp (disch := omega) only [u1, u2, and_self]))) (by (intros; first | rfl | (simp (disch := omega) only [u1, u2, and_self]))) (by (intros; first | rfl | (simp (disch := omega) only [u1, u2, and_self]))), ro.of (by (intros; first | rfl | (simp (disch := omega) only [u1, u2, and_self]))) (by (intros; first | rfl | (simp (disch := omega) only [u1, u2, and_self]))) (by (intros; first | rfl | (simp (disch := omega) only [u1, u2, and_self]))) (by (intros; first | rfl | (simp (disch := omega) only [u1, u2, and_self]))), rk.of (by (intros; first | rfl | (simp (disch := omega) only [u1, u2, and_self]))) (by (intros; first | rfl | (simp (disch := omega) only [u1, u2, and_self]))) (by (intros; first | rfl | (simp (disch := omega) only [u1, u2, and_self]))) (by (intros; first | rfl | (simp (disch := omega) only [u1, u2, and_self]))) (by (intros; first | rfl | (simp (disch := omega) only [u1, u2, and_self]))), rt.of (by (intros; first | rfl | (simp (disch := omega) only [u1, u2, and_self]))) (by (intros; first | rfl | (simp (disch := omega) only [u1, u2, and_self]))), (by (simp (disch := omega) only [u1, u2]; exact rr))⟩
      · refine f1.cp (fun a a0 a1 => ?_) p4 p5
        rw [← hM1, zkc_n ⟨a0, a1⟩]
        exact ⟨rfl, fun i i0 i1 => zkc_v (by omega) ⟨a0, a1⟩ ⟨i0, i1⟩⟩
      · rw [p6, ← hM1, zkc_3]
        exact ⟨f2, f3⟩
      · rw [p7]
        refine f4.cp ?_ (fun y y0 y1 => ?_) rfl p8
        · rw [← hM1, zkc_2]
        · rw [← hM1, zkc_p (by omega) ⟨y0, y1⟩]
    refine ⟨_, M1, P1, ?_, fun r y hr => u1 r y (by omega), p1, fun r y hr => u2 r y (by omega), hh.mono (by omega)⟩
    simp (disch := omega) only [q125_0, l2, zk_1, zk_2, zk_75, zp_1_0 r0, zp_1_0 k1, zp_1_8 r0, zrp75 r0 hd, (zrk75 n m hd).1, (zrp76 r0 hd).2, k2, e5', zg_pos, ↓reduceIte, Int.reduceEq, Int.reduceLE, Int.reduceLT, Int.reduceAdd, Int.reduceSub, Int.reduceMul, Int.reduceNeg, zg_T, zbI_ok, zbL_ok, zbN_ok, zite1, zite2, zite3, zem, Int.cast_ofNat_Int, and_self, and_true, true_and, or_true, true_or, or_self, ite_not, if_true, if_false, not_true_eq_false, not_false_eq_true]
