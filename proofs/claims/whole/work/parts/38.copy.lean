/-! COPY -/
theorem zcpy_0 {M : zM} {a sp b dp : Int} : zcpy M a sp b dp 0 = M := by
  funext x y
  unfold zcpy
  rw [if_neg (by omega)]
theorem zcpy_in {M : zM} {a sp b dp n y : Int} (h : dp ≤ y ∧ y < dp + n) : zcpy M a sp b dp n b y = M a (sp + (y - dp)) := by
  unfold zcpy
  rw [if_pos ⟨rfl, h⟩]
theorem zcpyo {M : zM} {a sp b dp n x y : Int} (h : y < dp ∨ dp + n ≤ y) : zcpy M a sp b dp n x y = M x y := by
  unfold zcpy
  rw [if_neg (by omega)]
theorem zcpy_s {M : zM} {a sp b dp t : Int} (ht : 0 ≤ t) : zu (zcpy M a sp b dp t) b (dp + t) (M a (sp + t)) = zcpy M a sp b dp (t + 1) := by
  funext x y
  unfold zcpy
  rw [zu_at]
  by_cases h1 : x = b ∧ y = dp + t
  · rw [if_pos h1, if_pos (by omega), h1.2, show dp + t - dp = t by omega]
  · rw [if_neg h1]
    by_cases h2 : x = b ∧ dp ≤ y ∧ y < dp + t
    · rw [if_pos h2, if_pos (by omega)]
    · rw [if_neg h2, if_neg (by omega)]
theorem zcpy_s0 {M : zM} {a sp b t : Int} (ht : 0 ≤ t) : zu (zcpy M a sp b 0 t) b t (M a (sp + t)) = zcpy M a sp b 0 (t + 1) := by
  have := zcpy_s (M := M) (a := a) (sp := sp) (b := b) (dp := 0) ht
  rw [Int.zero_add] at this
  exact this
theorem zcpy_z {M : zM} {a b dp t : Int} (ht : 0 ≤ t) : zu (zcpy M a 0 b dp t) b (dp + t) (M a t) = zcpy M a 0 b dp (t + 1) := by
  have := zcpy_s (M := M) (a := a) (sp := 0) (b := b) (dp := dp) ht
  rw [Int.zero_add] at this
  exact this
/-! calls that look at nothing, ahead of what follows them -/
theorem b133 {a b c : Int} {M : zM} {X : zX} {g : Int → zM → zX → Option zR} : zbI (zex 133 0 [] [(0, a), (0, b), (0, c)] M X) g = g (if b ≤ a ∧ a ≤ c then 1 else 0) M X := by rw [e133]; rfl
theorem b143 {a b c : Int} {M : zM} {X : zX} {g : Int → zM → zX → Option zR} : zbI (zex 143 0 [] [(0, a), (0, b), (0, c)] M X) g = g (if b ≤ a ∧ a ≤ c then 1 else 0) M X := by rw [e143]; rfl
theorem b134 {a : Int} {M : zM} {X : zX} {g : Int → zM → zX → Option zR} : zbI (zex 134 0 [] [(0, a)] M X) g = g (if 0 ≤ a ∧ a ≤ 2 then 1 else 0) M X := by rw [e134]; rfl
theorem b146 {a : Int} {M : zM} {X : zX} {g : Int → zM → zX → Option zR} : zbI (zex 146 0 [] [(0, a)] M X) g = g (if 0 ≤ a ∧ a ≤ 2 then 1 else 0) M X := by rw [e146]; rfl
theorem b136 {a : Int} {M : zM} {X : zX} {g : Int → zM → zX → Option zR} : zbI (zex 136 0 [] [(0, a)] M X) g = g (if 0 ≤ a ∧ a ≤ 5 then 1 else 0) M X := by rw [e136]; rfl
theorem b207 {a : Int} {M : zM} {X : zX} {g : Int → zM → zX → Option zR} : zbI (zex 207 0 [] [(0, a)] M X) g = g (if 0 ≤ a ∧ a ≤ 5 then 1 else 0) M X := by rw [e207]; rfl
theorem b135 {a b : Int} {M : zM} {X : zX} {g : Int → zM → zX → Option zR} : zbI (zex 135 0 [] [(0, a), (0, b)] M X) g = g (if (0 ≤ a ∧ a ≤ 31) ∧ 0 ≤ b ∧ b ≤ 31 then 1 else 0) M X := by rw [e135]; rfl
theorem b153 {a b : Int} {M : zM} {X : zX} {g : Int → zM → zX → Option zR} : zbI (zex 153 0 [] [(0, a), (0, b)] M X) g = g (if (0 ≤ a ∧ a ≤ 31) ∧ 0 ≤ b ∧ b ≤ 31 then 1 else 0) M X := by rw [e153]; rfl
theorem b221 {a b : Int} {M : zM} {X : zX} {g : Int → zM → zX → Option zR} : zbI (zex 221 0 [] [(0, a), (0, b)] M X) g = g (min a b) M X := by rw [e221]; rfl
theorem e218_l1 {P : zM} {n m : Nat} {d i e j k : Int} (r1 : zPR P) (hd : 0 ≤ d ∧ d ≤ 5) (hi : 0 ≤ i ∧ i + k ≤ 64) : ∀ (q : Nat) (t : Int), 0 ≤ t → t + q = k → zex 218 69 [] [(2, 178), (0, d), (0, i), (0, e), (0, j), (0, k), (0, t)] (zcpy P 203 (64 * d + i) 221 0 t) (zKs, n, m) = zex 218 90 [] [(2, 178), (0, d), (0, i), (0, e), (0, j), (0, k), (0, 0)] (zcpy P 203 (64 * d + i) 221 0 k) (zKs, n, m)
  | 0, t, h0, h1 => by
    rw [q218_69, if_pos (by omega), show t = k by omega]
  | q + 1, t, h0, h1 => by
    rw [← e218_l1 (n := n) (m := m) (e := e) (j := j) r1 hd hi q (t + 1) (by omega) (by omega), q218_69]
    simp (disch := omega) only [zk_178, zk_203, zk_221, zcpy_r, zp_178_39 r1, zp_178_66 r1, zcpy_s0, zg_pos, if_neg, zI, ↓reduceIte, Int.reduceEq, Int.reduceLE, Int.reduceLT, Int.reduceAdd, Int.reduceSub, Int.reduceMul, Int.reduceNeg, zg_T, zbI_ok, zbL_ok, zbN_ok, zite1, zite2, zite3, zem, Int.cast_ofNat_Int, and_self, and_true, true_and, or_true, true_or, or_self, ite_not, if_true, if_false, not_true_eq_false, not_false_eq_true]
theorem e218_l2 {P : zM} {n m : Nat} {d i e j k : Int} (r1 : zPR P) (he : 0 ≤ e ∧ e ≤ 5) (hj : 0 ≤ j ∧ j + k ≤ 64) : ∀ (q : Nat) (t : Int), 0 ≤ t → t + q = k → zex 218 90 [] [(2, 178), (0, d), (0, i), (0, e), (0, j), (0, k), (0, t)] (zcpy P 221 0 203 (64 * e + j) t) (zKs, n, m) = some ((0, k), zcpy P 221 0 203 (64 * e + j) k, (zKs, n, m))
  | 0, t, h0, h1 => by
    rw [q218_90, if_pos (by omega), show t = k by omega]
  | q + 1, t, h0, h1 => by
    rw [← e218_l2 (n := n) (m := m) (d := d) (i := i) r1 he hj q (t + 1) (by omega) (by omega), q218_90]
    simp (disch := omega) only [zk_178, zk_203, zk_221, zcpy_r, zp_178_39 r1, zp_178_66 r1, zcpy_z, zg_pos, if_neg, zI, ↓reduceIte, Int.reduceEq, Int.reduceLE, Int.reduceLT, Int.reduceAdd, Int.reduceSub, Int.reduceMul, Int.reduceNeg, zg_T, zbI_ok, zbL_ok, zbN_ok, zite1, zite2, zite3, zem, Int.cast_ofNat_Int, and_self, and_true, true_and, or_true, true_or, or_self, ite_not, if_true, if_false, not_true_eq_false, not_false_eq_true]
theorem zPR_221 {P : zM} {a sp n : Int} (h : zPR P) : zPR (zcpy P a sp 221 0 n) := zPR_t (fun r _ => decide (r = 221)) (by decide +kernel) h (fun r y hr => zcpy_r (by simpa using hr))
theorem o_copy {q : Int} {M P : zM} (h : zRel q M P) (hq : q ≤ 1000) (n m : Nat) (d i e j k : Int) (zi : zI i) (zj : zI j) : zOpn (q + 1) 130 218 [(0, d), (0, i), (0, e), (0, j), (0, k), (9, 0), (9, 0)] [(0, d), (0, i), (0, e), (0, j), (0, k), (9, 0)] M P n m := by
  obtain ⟨⟨r0, r1⟩, rc, rh, rp, rb, rs, rw0, rx, ro, rk, rt, rr⟩ := id h
  by_cases hd : 0 ≤ d ∧ d ≤ 5
  · by_cases he : 0 ≤ e ∧ e ≤ 5
    · obtain ⟨t1, t2, t3, t4⟩ := rt.at hd
      obtain ⟨s1, s2, s3, s4⟩ := rt.at he
      by_cases hz : P 201 d = 0
      · refine zOpn_rf h (-11) ?_ ?_
        · simp (disch := omega) only [q130_0, q130_24, ↓b136, hd, he, t1, s1, hz, zk_1, zk_75, zp_1_8 r0, zrp75 r0 hd, zrp75 r0 he, (zrk75 n m hd).1, (zrk75 n m he).1, zrf1 h hq, zg_pos, ↓reduceIte, Int.reduceEq, Int.reduceLE, Int.reduceLT, Int.reduceAdd, Int.reduceSub, Int.reduceMul, Int.reduceNeg, zg_T, zbI_ok, zbL_ok, zbN_ok, zite1, zite2, zite3, zem, Int.cast_ofNat_Int, and_self, and_true, true_and, or_true, true_or, or_self, ite_not, if_true, if_false, not_true_eq_false, not_false_eq_true]
        · simp (disch := omega) only [q218_0, q218_18, ↓b207, hd, he, hz, zk_178, zk_201, zp_178_37 r1, zrf2 h hq, zg_pos, ↓reduceIte, Int.reduceEq, Int.reduceLE, Int.reduceLT, Int.reduceAdd, Int.reduceSub, Int.reduceMul, Int.reduceNeg, zg_T, zbI_ok, zbL_ok, zbN_ok, zite1, zite2, zite3, zem, Int.cast_ofNat_Int, and_self, and_true, true_and, or_true, true_or, or_self, ite_not, if_true, if_false, not_true_eq_false, not_false_eq_true]
      · by_cases hw : P 201 e = 0
        · refine zOpn_rf h (-11) ?_ ?_
          · simp (disch := omega) only [q130_0, q130_24, ↓b136, hd, he, t1, s1, hz, hw, zk_1, zk_75, zp_1_8 r0, zrp75 r0 hd, zrp75 r0 he, (zrk75 n m hd).1, (zrk75 n m he).1, zrf1 h hq, zg_pos, ↓reduceIte, Int.reduceEq, Int.reduceLE, Int.reduceLT, Int.reduceAdd, Int.reduceSub, Int.reduceMul, Int.reduceNeg, zg_T, zbI_ok, zbL_ok, zbN_ok, zite1, zite2, zite3, zem, Int.cast_ofNat_Int, and_self, and_true, true_and, or_true, true_or, or_self, ite_not, if_true, if_false, not_true_eq_false, not_false_eq_true]
          · simp (disch := omega) only [q218_0, q218_18, ↓b207, hd, he, hz, hw, zk_178, zk_201, zp_178_37 r1, zrf2 h hq, zg_pos, ↓reduceIte, Int.reduceEq, Int.reduceLE, Int.reduceLT, Int.reduceAdd, Int.reduceSub, Int.reduceMul, Int.reduceNeg, zg_T, zbI_ok, zbL_ok, zbN_ok, zite1, zite2, zite3, zem, Int.cast_ofNat_Int, and_self, and_true, true_and, or_true, true_or, or_self, ite_not, if_true, if_false, not_true_eq_false, not_false_eq_true]
        · by_cases hz5 : P 201 d = 5
          · refine zOpn_rf h (-12) ?_ ?_
            · simp (disch := omega) only [q130_0, q130_36, ↓b136, hd, he, t1, s1, hz, hw, hz5, e75 (zrk75 n m hd).1, zk_1, zk_75, zp_1_8 r0, zrp75 r0 hd, zrp75 r0 he, (zrk75 n m hd).1, (zrk75 n m he).1, zrf1 h hq, zg_pos, ne_eq, and_false, ↓reduceIte, Int.reduceEq, Int.reduceLE, Int.reduceLT, Int.reduceAdd, Int.reduceSub, Int.reduceMul, Int.reduceNeg, zg_T, zbI_ok, zbL_ok, zbN_ok, zite1, zite2, zite3, zem, Int.cast_ofNat_Int, and_self, and_true, true_and, or_true, true_or, or_self, ite_not, if_true, if_false, not_true_eq_false, not_false_eq_true]
            · simp (disch := omega) only [q218_0, q218_37, ↓b207, hd, he, hz, hw, hz5, zk_178, zk_201, zp_178_37 r1, zrf2 h hq, zg_pos, ↓reduceIte, Int.reduceEq, Int.reduceLE, Int.reduceLT, Int.reduceAdd, Int.reduceSub, Int.reduceMul, Int.reduceNeg, zg_T, zbI_ok, zbL_ok, zbN_ok, zite1, zite2, zite3, zem, Int.cast_ofNat_Int, and_self, and_true, true_and, or_true, true_or, or_self, ite_not, if_true, if_false, not_true_eq_false, not_false_eq_true]
          · by_cases hs : P 201 d = P 201 e
            · obtain ⟨t5, t6, t7⟩ := t3 (by omega) (by omega)
              obtain ⟨s5, s6, s7⟩ := s3 (by omega) (by omega)
              have c1 := e77 (M := M) (i := i) (n := k) (zrk75 n m hd).1 (by rw [t5]; exact t6)
              have c2 := e77 (M := M) (i := j) (n := k) (zrk75 n m he).1 (by rw [s5]; exact s6)
              rw [t5] at c1
              rw [s5] at c2
              have hs' : M (76 + 17 * d) 0 = M (76 + 17 * e) 0 := by rw [t1, s1, hs]
              have hz' : ¬ M (76 + 17 * e) 0 = 0 := by rw [s1]; exact hw
              have hz6 : ¬ M (76 + 17 * e) 0 = 5 := by rw [s1, ← hs]; exact hz5
              by_cases hp : (0 ≤ i ∧ 0 ≤ k ∧ k ≤ P 202 d ∧ i ≤ P 202 d - k) ∧ 0 ≤ j ∧ 0 ≤ k ∧ k ≤ P 202 e ∧ j ≤ P 202 e - k
              · obtain ⟨hp1, hp2⟩ := hp
                have a1 : ¬ k < 0 := by omega
                have a2 : ¬ i < 0 := by omega
                have a3 : ¬ j < 0 := by omega
                have a4 : ¬ P 202 d - i < k := by omega
                have a5 : k ≤ P 202 e - j := by omega
                have l1 := e218_l1 (n := n) (m := m) (e := e) (j := j) r1 hd (i := i) (k := k) (by omega) k.toNat 0 (by omega) (by omega)
                rw [zcpy_0] at l1
                have l2 := e218_l2 (n := n) (m := m) (d := d) (i := i) (zPR_221 (a := 203) (sp := 64 * d + i) (n := k) r1) he (j := j) (k := k) (by omega) k.toNat 0 (by omega) (by omega)
                rw [zcpy_0] at l2
                generalize hP1 : zcpy (zcpy P 203 (64 * d + i) 221 0 k) 221 0 203 (64 * e + j) k = P1 at l2
                have u2 : ∀ r y, (r < 203 ∨ (203 < r ∧ r ≠ 221) ∨ (r = 203 ∧ zown r y ≠ e)) → P1 r y = P r y := fun r y hr => by
                  rw [← hP1]
                  by_cases e3 : r = 203
                  · subst e3
                    rw [zow_203] at hr
                    rw [zcpyo (by omega), zcpy_r (by omega)]
                  · rw [zcpy_r e3, zcpy_r (by omega)]
                have u1 : ∀ r y, r ≠ 77 + 17 * e → zcpy M (77 + 17 * d) i (77 + 17 * e) j k r y = M r y := fun r y hr => zcpy_r hr
                have hh : zRel q (zcpy M (77 + 17 * d) i (77 + 17 * e) j k) P1 := by
                  refine ⟨⟨zPC_t (fun r y => decide (76 ≤ r ∧ r ≤ 177) && decide ((r - 76) % 17 = 1)) (by decide +kernel) r0 (fun r y hr => u1 r y (by simp at hr; omega)), zPR_t (fun r y => decide (r = 203 ∨ r = 221)) (by decide +kernel) r1 (fun r y hr => u2 r y (by simp at hr; omega))⟩, rc.of (by (intros; first | rfl | (simp (disch := omega) only [u1, u2, and_self]))) (by (intros; first | rfl | (simp (disch := omega) only [u1, u2, and_self]))) (by (intros; first | rfl | (simp (disch := omega) only [u1, u2, and_self]))), (by (simp (disch := omega) only [u1, u2]; exact rh)), rp.of (by (intros; first | rfl | (simp (disch := omega) only [u1, u2, and_self]))) (by (intros; first | rfl | (simp (disch := omega) only [u1, u2, and_self]))) (by (intros; first | rfl | (simp (disch := omega) only [u1, u2, and_self]))) (by (intros; first | rfl | (simp (disch := omega) only [u1, u2, and_self]))), rb.of (by (intros; first | rfl | (simp (disch := omega) only [u1, u2, and_self]))) (by (intros; first | rfl | (simp (disch := omega) only [u1, u2, and_self]))) (by (intros; first | rfl | (simp (disch := omega) only [u1, u2, and_self]))), rs.of (by (intros; first | rfl | (simp (disch := omega) only [u1, u2, and_self]))) (by (intros; first | rfl | (simp (disch := omega) only [u1, u2, and_self]))) (by (intros; first | rfl | (simp (disch := omega) only [u1, u2, and_self]))) (by (intros; first | rfl | (simp (disch := omega) only [u1, u2, and_self]))), rw0.of (by (intros; first | rfl | (simp (disch := omega) only [u1, u2, and_self]))) (by (intros; first | rfl | (simp (disch := omega) only [u1, u2, and_self]))) (by (intros; first | rfl | (simp (disch := omega) only [u1, u2, and_self]))) (by (intros; first | rfl | (simp (disch := omega) only [u1, u2, and_self]))) (by (intros; first | rfl | (simp (disch := omega) only [u1, u2, and_self]))) (by (intros; first | rfl | (simp (disch := omega) only [u1, u2, and_self]))), rx.of (by (intros; first | rfl | (simp (disch := omega) only [u1, u2, and_self]))) (by (intros; first | rfl | (simp (disch := omega) only [u1, u2, and_self]))) (by (intros; first | rfl | (simp (disch := omega) only [u1, u2, and_self]))) (by (intros; first | rfl | (simp (disch := omega) only [u1, u2, and_self]))), ro.of (by (intros; first | rfl | (simp (disch := omega) only [u1, u2, and_self]))) (by (intros; first | rfl | (simp (disch := omega) only [u1, u2, and_self]))) (by (intros; first | rfl | (simp (disch := omega) only [u1, u2, and_self]))) (by (intros; first | rfl | (simp (disch := omega) only [u1, u2, and_self]))), rk.of (by (intros; first | rfl | (simp (disch := omega) only [u1, u2, and_self]))) (by (intros; first | rfl | (simp (disch := omega) only [u1, u2, and_self]))) (by (intros; first | rfl | (simp (disch := omega) only [u1, u2, and_self]))) (by (intros; first | rfl | (simp (disch := omega) only [u1, u2, and_self]))) (by (intros; first | rfl | (simp (disch := omega) only [u1, u2, and_self]))), rt.upd (d := e) (fun r y a b c => u1 r y (by omega)) (fun r y a b c => u2 r y (by omega)) ?_, (by (simp (disch := omega) only [u1, u2]; exact rr))⟩
                  unfold zRt1
                  rw [u1 _ _ (by omega), u1 _ _ (by omega), u2 201 _ (by omega), u2 202 _ (by omega)]
                  refine ⟨s1, s2, fun _ _ => ⟨s5, s6, fun y y0 y1 => ?_⟩, fun c => by omega⟩
                  rw [← hP1]
                  by_cases ey : j ≤ y ∧ y < j + k
                  · rw [zcpy_in ey, zcpy_in (by omega), zcpy_in (by omega), t7 _ (by omega) (by omega), show 64 * d + (i + (y - j)) = 64 * d + i + (0 + (64 * e + y - (64 * e + j)) - 0) by omega]
                  · rw [zcpyo (by omega), zcpyo (by omega), zcpy_r (by omega)]
                    exact s7 y y0 y1
                refine ⟨k, _, P1, ?_, fun r y hr => u1 r y (by omega), ?_, fun r y hr => u2 r y (by omega), hh.mono (by omega)⟩
                · simp (disch := omega) only [q130_0, ↓b136, hd, he, hs', hz', hz6, e75 (zrk75 n m hd).1, c1, c2, hp1, hp2, zk_1, zk_75, zp_1_8 r0, zrp75 r0 hd, zrp75 r0 he, (zrk75 n m hd).1, (zrk75 n m he).1, (zrk75 n m hd).2, (zrk75 n m he).2, (zrp76 r0 hd).1, (zrp76 r0 he).1, zg_pos, ne_eq, ↓reduceIte, Int.reduceEq, Int.reduceLE, Int.reduceLT, Int.reduceAdd, Int.reduceSub, Int.reduceMul, Int.reduceNeg, zg_T, zbI_ok, zbL_ok, zbN_ok, zite1, zite2, zite3, zem, Int.cast_ofNat_Int, and_self, and_true, true_and, or_true, true_or, or_self, ite_not, if_true, if_false, not_true_eq_false, not_false_eq_true]
                · have hz7 : ¬ P 201 e = 5 := by omega
                  simp (disch := omega) only [q218_0, ↓b207, hd, he, hw, hz7, a1, a2, a3, a4, a5, zk_178, zk_201, zk_202, zp_178_37 r1, zp_178_38 r1, hs, l1, l2, zg_pos, zI, ↓reduceIte, Int.reduceEq, Int.reduceLE, Int.reduceLT, Int.reduceAdd, Int.reduceSub, Int.reduceMul, Int.reduceNeg, zg_T, zbI_ok, zbL_ok, zbN_ok, zite1, zite2, zite3, zem, Int.cast_ofNat_Int, and_self, and_true, true_and, or_true, true_or, or_self, ite_not, if_true, if_false, not_true_eq_false, not_false_eq_true]
              · have g2 : zex 218 0 [] [(2, 178), (0, d), (0, i), (0, e), (0, j), (0, k), (9, 0)] P (zKs, n, m) = zex 218 63 [] [(2, 178), (0, d), (0, i), (0, e), (0, j), (0, k), (9, 0)] P (zKs, n, m) := by
                  have zi' : -2147483648 ≤ i ∧ i ≤ 2147483647 := zi
                  have zj' : -2147483648 ≤ j ∧ j ≤ 2147483647 := zj
                  have hz7 : ¬ P 201 e = 5 := by omega
                  by_cases a1 : k < 0
                  · simp (disch := omega) only [q218_0, ↓b207, hd, he, hs, hw, hz7, a1, zk_178, zk_201, zk_202, zp_178_37 r1, zp_178_38 r1, zg_pos, zI, ↓reduceIte, Int.reduceEq, Int.reduceLE, Int.reduceLT, Int.reduceAdd, Int.reduceSub, Int.reduceMul, Int.reduceNeg, zg_T, zbI_ok, zbL_ok, zbN_ok, zite1, zite2, zite3, zem, Int.cast_ofNat_Int, and_self, and_true, true_and, or_true, true_or, or_self, ite_not, if_true, if_false, not_true_eq_false, not_false_eq_true]
                  · by_cases a2 : i < 0
                    · simp (disch := omega) only [q218_0, ↓b207, hd, he, hs, hw, hz7, a1, a2, zk_178, zk_201, zk_202, zp_178_37 r1, zp_178_38 r1, zg_pos, zI, ↓reduceIte, Int.reduceEq, Int.reduceLE, Int.reduceLT, Int.reduceAdd, Int.reduceSub, Int.reduceMul, Int.reduceNeg, zg_T, zbI_ok, zbL_ok, zbN_ok, zite1, zite2, zite3, zem, Int.cast_ofNat_Int, and_self, and_true, true_and, or_true, true_or, or_self, ite_not, if_true, if_false, not_true_eq_false, not_false_eq_true]
                    · by_cases a3 : j < 0
                      · simp (disch := omega) only [q218_0, ↓b207, hd, he, hs, hw, hz7, a1, a2, a3, zk_178, zk_201, zk_202, zp_178_37 r1, zp_178_38 r1, zg_pos, zI, ↓reduceIte, Int.reduceEq, Int.reduceLE, Int.reduceLT, Int.reduceAdd, Int.reduceSub, Int.reduceMul, Int.reduceNeg, zg_T, zbI_ok, zbL_ok, zbN_ok, zite1, zite2, zite3, zem, Int.cast_ofNat_Int, and_self, and_true, true_and, or_true, true_or, or_self, ite_not, if_true, if_false, not_true_eq_false, not_false_eq_true]
                      · by_cases a4 : P 202 d - i < k
                        · simp (disch := omega) only [q218_0, ↓b207, hd, he, hs, hw, hz7, a1, a2, a3, a4, zk_178, zk_201, zk_202, zp_178_37 r1, zp_178_38 r1, zg_pos, zI, ↓reduceIte, Int.reduceEq, Int.reduceLE, Int.reduceLT, Int.reduceAdd, Int.reduceSub, Int.reduceMul, Int.reduceNeg, zg_T, zbI_ok, zbL_ok, zbN_ok, zite1, zite2, zite3, zem, Int.cast_ofNat_Int, and_self, and_true, true_and, or_true, true_or, or_self, ite_not, if_true, if_false, not_true_eq_false, not_false_eq_true]
                        · have a5 : ¬ k ≤ P 202 e - j := by omega
                          simp (disch := omega) only [q218_0, ↓b207, hd, he, hs, hw, hz7, a1, a2, a3, a4, a5, zk_178, zk_201, zk_202, zp_178_37 r1, zp_178_38 r1, zg_pos, zI, ↓reduceIte, Int.reduceEq, Int.reduceLE, Int.reduceLT, Int.reduceAdd, Int.reduceSub, Int.reduceMul, Int.reduceNeg, zg_T, zbI_ok, zbL_ok, zbN_ok, zite1, zite2, zite3, zem, Int.cast_ofNat_Int, and_self, and_true, true_and, or_true, true_or, or_self, ite_not, if_true, if_false, not_true_eq_false, not_false_eq_true]
                refine zOpn_rf h (-13) ?_ ?_
                · by_cases hp1 : 0 ≤ i ∧ 0 ≤ k ∧ k ≤ P 202 d ∧ i ≤ P 202 d - k
                  · have hp2 : ¬ (0 ≤ j ∧ 0 ≤ k ∧ k ≤ P 202 e ∧ j ≤ P 202 e - k) := fun c => hp ⟨hp1, c⟩
                    rw [if_neg hp2] at c2
                    rw [if_pos hp1] at c1
                    simp (disch := omega) only [q130_0, q130_50, ↓b136, hd, he, hs', hz', hz6, e75 (zrk75 n m hd).1, c1, c2, zk_1, zk_75, zp_1_8 r0, zrp75 r0 hd, zrp75 r0 he, (zrk75 n m hd).1, (zrk75 n m he).1, zrf1 h hq, zg_pos, ne_eq, ↓reduceIte, Int.reduceEq, Int.reduceLE, Int.reduceLT, Int.reduceAdd, Int.reduceSub, Int.reduceMul, Int.reduceNeg, zg_T, zbI_ok, zbL_ok, zbN_ok, zite1, zite2, zite3, zem, Int.cast_ofNat_Int, and_self, and_true, true_and, or_true, true_or, or_self, ite_not, if_true, if_false, not_true_eq_false, not_false_eq_true]
                  · rw [if_neg hp1] at c1
                    simp (disch := omega) only [q130_0, q130_50, ↓b136, hd, he, hs', hz', hz6, e75 (zrk75 n m hd).1, c1, zk_1, zk_75, zp_1_8 r0, zrp75 r0 hd, zrp75 r0 he, (zrk75 n m hd).1, (zrk75 n m he).1, zrf1 h hq, zg_pos, ne_eq, ↓reduceIte, Int.reduceEq, Int.reduceLE, Int.reduceLT, Int.reduceAdd, Int.reduceSub, Int.reduceMul, Int.reduceNeg, zg_T, zbI_ok, zbL_ok, zbN_ok, zite1, zite2, zite3, zem, Int.cast_ofNat_Int, and_self, and_true, true_and, or_true, true_or, or_self, ite_not, if_true, if_false, not_true_eq_false, not_false_eq_true]
                · rw [g2]
                  simp only [q218_63, zk_178, zrf2 h hq, ↓reduceIte, Int.reduceEq, Int.reduceLE, Int.reduceLT, Int.reduceAdd, Int.reduceSub, Int.reduceMul, Int.reduceNeg, zg_T, zbI_ok, zbL_ok, zbN_ok, zite1, zite2, zite3, zem, Int.cast_ofNat_Int, and_self, and_true, true_and, or_true, true_or, or_self, ite_not, if_true, if_false, not_true_eq_false, not_false_eq_true]
            · refine zOpn_rf h (-12) ?_ ?_
              · simp (disch := omega) only [q130_0, q130_36, ↓b136, hd, he, t1, s1, hz, hw, hz5, hs, e75 (zrk75 n m hd).1, zk_1, zk_75, zp_1_8 r0, zrp75 r0 hd, zrp75 r0 he, (zrk75 n m hd).1, (zrk75 n m he).1, zrf1 h hq, zg_pos, ne_eq, ↓reduceIte, Int.reduceEq, Int.reduceLE, Int.reduceLT, Int.reduceAdd, Int.reduceSub, Int.reduceMul, Int.reduceNeg, zg_T, zbI_ok, zbL_ok, zbN_ok, zite1, zite2, zite3, zem, Int.cast_ofNat_Int, and_self, and_true, true_and, or_true, true_or, or_self, ite_not, if_true, if_false, not_true_eq_false, not_false_eq_true]
              · simp (disch := omega) only [q218_0, q218_37, ↓b207, hd, he, hz, hw, hz5, hs, zk_178, zk_201, zp_178_37 r1, zrf2 h hq, zg_pos, ↓reduceIte, Int.reduceEq, Int.reduceLE, Int.reduceLT, Int.reduceAdd, Int.reduceSub, Int.reduceMul, Int.reduceNeg, zg_T, zbI_ok, zbL_ok, zbN_ok, zite1, zite2, zite3, zem, Int.cast_ofNat_Int, and_self, and_true, true_and, or_true, true_or, or_self, ite_not, if_true, if_false, not_true_eq_false, not_false_eq_true]
    · refine zOpn_same h (-1) ?_ ?_
      · simp only [q130_0, q130_6, ↓b136, hd, he, ↓reduceIte, Int.reduceEq, Int.reduceLE, Int.reduceLT, Int.reduceAdd, Int.reduceSub, Int.reduceMul, Int.reduceNeg, zg_T, zbI_ok, zbL_ok, zbN_ok, zite1, zite2, zite3, zem, Int.cast_ofNat_Int, and_self, and_true, true_and, or_true, true_or, or_self, ite_not, if_true, if_false, not_true_eq_false, not_false_eq_true]
      · simp only [q218_0, q218_6, ↓b207, hd, he, ↓reduceIte, Int.reduceEq, Int.reduceLE, Int.reduceLT, Int.reduceAdd, Int.reduceSub, Int.reduceMul, Int.reduceNeg, zg_T, zbI_ok, zbL_ok, zbN_ok, zite1, zite2, zite3, zem, Int.cast_ofNat_Int, and_self, and_true, true_and, or_true, true_or, or_self, ite_not, if_true, if_false, not_true_eq_false, not_false_eq_true]
  · refine zOpn_same h (-1) ?_ ?_
    · simp only [q130_0, q130_6, ↓b136, hd, ↓reduceIte, Int.reduceEq, Int.reduceLE, Int.reduceLT, Int.reduceAdd, Int.reduceSub, Int.reduceMul, Int.reduceNeg, zg_T, zbI_ok, zbL_ok, zbN_ok, zite1, zite2, zite3, zem, Int.cast_ofNat_Int, and_self, and_true, true_and, or_true, true_or, or_self, ite_not, if_true, if_false, not_true_eq_false, not_false_eq_true]
    · simp only [q218_0, q218_6, ↓b207, hd, ↓reduceIte, Int.reduceEq, Int.reduceLE, Int.reduceLT, Int.reduceAdd, Int.reduceSub, Int.reduceMul, Int.reduceNeg, zg_T, zbI_ok, zbL_ok, zbN_ok, zite1, zite2, zite3, zem, Int.cast_ofNat_Int, and_self, and_true, true_and, or_true, true_or, or_self, ite_not, if_true, if_false, not_true_eq_false, not_false_eq_true]
