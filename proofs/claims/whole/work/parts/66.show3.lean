/-! SHOW: ticks -/
theorem sh_in {q : Int} {M0 P0 : zM} {n m : Nat} {v u0 x1 : Int} (h : zRel q M0 P0) (hv : 0 ≤ v ∧ v ≤ 9) (h0 : 0 ≤ u0) (hx : 0 ≤ x1 ∧ x1 < 9999) : ∀ (z : Nat) (i : Int) (M P : zM) (σ : zS) (k : Int → Int) (w : zW) (N X : Int), 0 ≤ i → i + z = v → zShR M0 P0 M P σ k w (u0 + i) N X → M 36 2 = x1 → ∃ M' P' σ' k' w' u' N' X' x4' x6', zex 70 44 [] [(2, 36), (2, 27), (2, 25), (2, 18), (0, v), (0, min (P0 178 16) (u0 + v)), (0, u0 + i)] M (zKs, n, m) = zex 70 16 [] [(2, 36), (2, 27), (2, 25), (2, 18), (0, v), (0, min (P0 178 16) (u0 + v)), (0, x6')] M' (zKs, n, m) ∧ zex 169 38 [] [(2, 178), (0, x1), (0, X), (0, v), (0, i)] P (zKs, n, m) = zex 169 17 [] [(2, 178), (0, x1 + 1), (0, X'), (0, v), (0, x4')] P' (zKs, n, m) ∧ zShR M0 P0 M' P' σ' k' w' u' N' X' ∧ M' 36 2 = x1 + 1 := by
  intro z
  induction z with
  | zero =>
    intro i M P σ k w N X h1 h2 R hT
    refine ⟨zu M 36 2 (x1 + 1), P, σ, k, w, u0 + i, N, X, i, u0 + i, ?_, ?_, ?_, zus⟩
    · rw [q70_44, if_pos (by omega)]
      simp (disch := omega) only [q70_66, hT, zk_36, zg_pos, zI, ↓reduceIte, Int.reduceEq, Int.reduceLE, Int.reduceLT, Int.reduceAdd, Int.reduceSub, Int.reduceMul, Int.reduceNeg, zg_T, zbI_ok, zbL_ok, zbN_ok, zite1, zite2, zite3, zem, Int.cast_ofNat_Int, and_self, and_true, true_and, or_true, true_or, or_self, ite_not, if_true, if_false, not_true_eq_false, not_false_eq_true]
    · rw [q169_38, if_pos (by omega), q169_68, zg_pos (by unfold zI; omega)]
    · obtain ⟨f0, f1, ⟨⟨sc1, sc2⟩, sc3⟩, sr, ok, uu, ⟨⟨n1, n2⟩, n3, n4⟩, wc, wr, wb, xx⟩ := R
      have zz : ∀ r y, (r ≠ 36 ∨ y ≠ 2) → zu M 36 2 (x1 + 1) r y = M r y := fun r y hr => by
        by_cases e : r = 36
        · exact zun2 (by omega)
        · exact zun e
      refine ⟨fun r y hr => by rw [zz _ _ (by omega)]; exact f0 r y hr, f1, ⟨⟨?_, by rw [zz _ _ (by omega)]; exact sc2⟩, fun a a0 a2 => (sc3 a a0 a2).of (zz _ _ (by omega)) (zz _ _ (by omega)) (fun i => zz _ _ (by omega))⟩, sr, ok, by rw [zz _ _ (by omega)]; exact uu, ⟨⟨by rw [zz _ _ (by omega)]; exact n1, n2⟩, n3, fun i i0 i1 => by rw [zz _ _ (by omega), zz _ _ (by omega), zz _ _ (by omega), zz _ _ (by omega)]; exact n4 i i0 i1⟩, wc.of (zz _ _ (by omega)) (fun r y _ _ => zz _ _ (by omega)), wr, wb, by rw [zz _ _ (by omega)]; exact xx⟩
      obtain ⟨y0, y1, y2, y3⟩ := sc1
      exact ⟨by rw [zz _ _ (by omega), y0], by rw [zz _ _ (by omega), y1], by rw [zz _ _ (by omega), y2], by rw [zz _ _ (by omega), y3]⟩
  | succ z ih =>
    intro i M P σ k w N X h1 h2 R hT
    have w0 := h.2.2.2.2.2.2.1
    have hF := w0.2.2.2.2.2.1
    have hd : P 178 16 = P0 178 16 := R.2.1 _ _ (by omega)
    have hd15 : P 178 15 = P0 178 15 := R.2.1 _ _ (by omega)
    have hM2 : M 25 2 = P0 178 15 := by rw [R.1 _ _ (by omega)]; exact w0.2.2.1
    obtain ⟨u1, u2, u3, u4⟩ := R.2.2.2.2.2.1
    by_cases e : P0 178 16 ≤ u0 + i
    · refine ⟨zu M 36 2 (x1 + 1), P, σ, k, w, u0 + i, N, X, i, u0 + i, ?_, ?_, ?_, zus⟩
      · rw [q70_44, if_pos (by omega)]
        simp (disch := omega) only [q70_66, hT, zk_36, zg_pos, zI, ↓reduceIte, Int.reduceEq, Int.reduceLE, Int.reduceLT, Int.reduceAdd, Int.reduceSub, Int.reduceMul, Int.reduceNeg, zg_T, zbI_ok, zbL_ok, zbN_ok, zite1, zite2, zite3, zem, Int.cast_ofNat_Int, and_self, and_true, true_and, or_true, true_or, or_self, ite_not, if_true, if_false, not_true_eq_false, not_false_eq_true]
      · rw [q169_38, if_neg (by omega), zg_pos (zk_178 n m), zg_pos (zk_178 n m), hd, u2, if_pos e, q169_68, zg_pos (by unfold zI; omega)]
      · obtain ⟨f0, f1, ⟨⟨sc1, sc2⟩, sc3⟩, sr, ok, uu, ⟨⟨n1, n2⟩, n3, n4⟩, wc, wr, wb, xx⟩ := R
        have zz : ∀ r y, (r ≠ 36 ∨ y ≠ 2) → zu M 36 2 (x1 + 1) r y = M r y := fun r y hr => by
          by_cases e : r = 36
          · exact zun2 (by omega)
          · exact zun e
        refine ⟨fun r y hr => by rw [zz _ _ (by omega)]; exact f0 r y hr, f1, ⟨⟨?_, by rw [zz _ _ (by omega)]; exact sc2⟩, fun a a0 a2 => (sc3 a a0 a2).of (zz _ _ (by omega)) (zz _ _ (by omega)) (fun i => zz _ _ (by omega))⟩, sr, ok, by rw [zz _ _ (by omega)]; exact uu, ⟨⟨by rw [zz _ _ (by omega)]; exact n1, n2⟩, n3, fun i i0 i1 => by rw [zz _ _ (by omega), zz _ _ (by omega), zz _ _ (by omega), zz _ _ (by omega)]; exact n4 i i0 i1⟩, wc.of (zz _ _ (by omega)) (fun r y _ _ => zz _ _ (by omega)), wr, wb, by rw [zz _ _ (by omega)]; exact xx⟩
        obtain ⟨y0, y1, y2, y3⟩ := sc1
        exact ⟨by rw [zz _ _ (by omega), y0], by rw [zz _ _ (by omega), y1], by rw [zz _ _ (by omega), y2], by rw [zz _ _ (by omega), y3]⟩
    · obtain ⟨M1, P1, σ1, k1, w1, N1, X1, t1, t2, t3, t4⟩ := sh_step (n := n) (m := m) (hs := if v ≤ P0 178 15 then 0 else 1) (x1 := x1) (x3 := v) (x4 := i) h R (by omega) (by split <;> omega) (by omega)
      obtain ⟨M', P', σ', k', w', u', N', X', x4', x6', c1, c2, c3, c4⟩ := ih (i + 1) M1 P1 σ1 k1 w1 N1 X1 (by omega) (by omega) (by rw [show u0 + (i + 1) = u0 + i + 1 by omega]; exact t3) (by rw [t4, hT])
      refine ⟨M', P', σ', k', w', u', N', X', x4', x6', ?_, ?_, c3, c4⟩
      · rw [← c1, q70_44, if_neg (by omega), zg_pos (zk_25 n m), hM2]
        by_cases e2 : v ≤ P0 178 15
        · rw [if_pos e2] at t1 ⊢
          rw [q70_57, zg_pos (zk_36 n m), t1, zbN_ok, zg_pos (by unfold zI; omega), show u0 + (i + 1) = u0 + i + 1 by omega]
        · rw [if_neg e2] at t1 ⊢
          rw [q70_57, zg_pos (zk_36 n m), t1, zbN_ok, zg_pos (by unfold zI; omega), show u0 + (i + 1) = u0 + i + 1 by omega]
      · rw [← c2, q169_38, if_neg (by omega), zg_pos (zk_178 n m), zg_pos (zk_178 n m), hd, u2, if_neg e, zg_pos (zk_178 n m), hd15]
        by_cases e2 : v ≤ P0 178 15
        · rw [if_pos e2] at t2 ⊢
          rw [t2]
        · rw [if_neg e2] at t2 ⊢
          rw [t2]
theorem e63 {M : zM} {n m : Nat} {c l wn p : Int → Int} (r0 : zPC M) (hC : zCC M c l wn) (hp : ∀ a, 0 ≤ a → a ≤ 2 → M 33 a = p a ∧ p a ≤ c a) : zex 63 0 [] [(2, 27)] M (zKs, n, m) = some ((0, if p 0 = c 0 ∧ p 1 = c 1 ∧ p 2 = c 2 then 1 else 0), M, (zKs, n, m)) := by
  have a0 := e62 (n := n) (m := m) r0 hC (a := 0) (by omega)
  have a1 := e62 (n := n) (m := m) r0 hC (a := 1) (by omega)
  have a2 := e62 (n := n) (m := m) r0 hC (a := 2) (by omega)
  obtain ⟨p0, p0'⟩ := hp 0 (by omega) (by omega)
  obtain ⟨p1, p1'⟩ := hp 1 (by omega) (by omega)
  obtain ⟨p2, p2'⟩ := hp 2 (by omega) (by omega)
  rw [p0] at a0
  rw [p1] at a1
  rw [p2] at a2
  rw [q63_0, zg_pos (zk_27 n m), a0, zbI_ok]
  by_cases e0 : p 0 < c 0
  · rw [if_pos e0, if_pos rfl, q63_14, q63_15, zg_pos (by omega), if_neg (by omega)]
  · rw [if_neg e0, if_neg (by omega), zg_pos (zk_27 n m), a1, zbI_ok]
    by_cases e1 : p 1 < c 1
    · rw [if_pos e1, if_pos rfl, q63_14, q63_15, zg_pos (by omega), if_neg (by omega)]
    · rw [if_neg e1, if_neg (by omega), zg_pos (zk_27 n m), a2, zbI_ok]
      by_cases e2 : p 2 < c 2
      · rw [if_pos e2, if_pos rfl, q63_14, q63_15, zg_pos (by omega), if_neg (by omega)]
      · rw [if_neg e2, if_neg (by omega), q63_15, zg_pos (by omega), if_pos (by omega)]
theorem sh_out {q : Int} {M0 P0 : zM} {n m : Nat} (h : zRel q M0 P0) : ∀ (z : Nat) (x1 : Int) (M P : zM) (σ : zS) (k : Int → Int) (w : zW) (u N X : Int) (d4 d5 d6 d d' : zV), 0 ≤ x1 → x1 + z = 9999 → zShR M0 P0 M P σ k w u N X → M 36 2 = x1 → ∃ M' P' σ' k' w' u' N' X' x1' c4 c5 c6 c c', zex 70 16 [] [(2, 36), (2, 27), (2, 25), (2, 18), d4, d5, d6] M (zKs, n, m) = zex 70 67 [] [(2, 36), (2, 27), (2, 25), (2, 18), c4, c5, c6] M' (zKs, n, m) ∧ zex 169 17 [] [(2, 178), (0, x1), (0, X), d, d'] P (zKs, n, m) = zex 169 70 [] [(2, 178), (0, x1'), (0, X'), c, c'] P' (zKs, n, m) ∧ zShR M0 P0 M' P' σ' k' w' u' N' X' ∧ M' 36 2 = x1' := by
  intro z
  induction z with
  | zero =>
    intro x1 M P σ k w u N X d4 d5 d6 d d' h0 h1 R hT
    have e1 := e162 (n := n) (m := m) (R.2.1.pr h.1.2)
    refine ⟨M, P, σ, k, w, u, N, X, x1, d4, d5, d6, d, d', ?_, ?_, R, hT⟩
    · rw [q70_16, zg_pos (zk_36 n m), hT, if_pos (by omega)]
    · rw [q169_17, zg_pos (zk_178 n m), zg_pos (zk_178 n m)]
      by_cases g1 : P 178 16 ≤ P 178 57
      · rw [if_pos g1]
      · rw [if_neg g1, zg_pos (zk_178 n m), e1, zbI_ok]
        by_cases g2 : P 213 0 = P 179 0 ∧ P 213 1 = P 179 1 ∧ P 213 2 = P 179 2
        · rw [if_pos g2, if_neg (by omega)]
        · rw [if_neg g2, if_pos rfl, if_pos (by omega)]
  | succ z ih =>
    intro x1 M P σ k w u N X d4 d5 d6 d d' h0 h1 R hT
    have w0 := h.2.2.2.2.2.2.1
    obtain ⟨w1, w2, w3, w4, w5, w6, w7⟩ := w0
    have e1 := e162 (n := n) (m := m) (R.2.1.pr h.1.2)
    have hd : P 178 16 = P0 178 16 := R.2.1 _ _ (by omega)
    have hM3 : M 25 3 = P0 178 16 := by rw [R.1 _ _ (by omega)]; exact w5
    obtain ⟨u1, u2, u3, u4⟩ := R.2.2.2.2.2.1
    have pc : ∀ a, 0 ≤ a → a ≤ 2 → M 33 a = σ.2.2.1 a ∧ σ.2.2.1 a ≤ P0 179 a := fun a a0 a2 => ⟨(R.2.2.1.2 a a0 a2).1, (R.2.2.2.2.1.2.2 a a0 a2).2.1⟩
    have e2 := e63 (n := n) (m := m) (R.1.pc h.1.1) (R.1.cc h.cc) pc
    have s1 := R.2.2.2.1.2.1
    rw [(s1 0 (by omega) (by omega)).1, (s1 1 (by omega) (by omega)).1, (s1 2 (by omega) (by omega)).1, R.2.1 179 0 (by omega), R.2.1 179 1 (by omega), R.2.1 179 2 (by omega)] at e1
    by_cases f1 : P0 178 16 ≤ u
    · refine ⟨M, P, σ, k, w, u, N, X, x1, d4, d5, d6, d, d', ?_, ?_, R, hT⟩
      · rw [q70_16, zg_pos (zk_36 n m), hT, if_neg (by omega), zg_pos (zk_27 n m), zg_pos (zk_25 n m), hM3, u1, if_pos f1]
      · rw [q169_17, zg_pos (zk_178 n m), zg_pos (zk_178 n m), hd, u2, if_pos f1]
    · by_cases f2 : σ.2.2.1 0 = P0 179 0 ∧ σ.2.2.1 1 = P0 179 1 ∧ σ.2.2.1 2 = P0 179 2
      · rw [if_pos f2] at e1 e2
        refine ⟨M, P, σ, k, w, u, N, X, x1, d4, d5, d6, d, d', ?_, ?_, R, hT⟩
        · rw [q70_16, zg_pos (zk_36 n m), hT, if_neg (by omega), zg_pos (zk_27 n m), zg_pos (zk_25 n m), hM3, u1, if_neg f1, zg_pos (zk_27 n m), e2, zbI_ok, if_neg (by omega)]
        · rw [q169_17, zg_pos (zk_178 n m), zg_pos (zk_178 n m), hd, u2, if_neg f1, zg_pos (zk_178 n m), e1, zbI_ok, if_neg (by omega)]
      · rw [if_neg f2] at e1 e2
        have b0 : 0 ≤ x1 % P0 178 13 := Int.emod_nonneg _ (by omega)
        have b1 : x1 % P0 178 13 < P0 178 13 := Int.emod_lt_of_pos _ (by omega)
        obtain ⟨v1, v2, v3⟩ := w7 _ b0 b1
        have hM1 : M 25 1 = P0 178 13 := by rw [R.1 _ _ (by omega)]; exact w1
        have e3 := e83 (n := n) (m := m) (t := x1) (R.1.pc h.1.1) (by rw [hM1]; exact w2) h0
        rw [hM1, R.1 26 _ (by omega), v1] at e3
        have hd13 : P 178 13 = P0 178 13 := R.2.1 _ _ (by omega)
        have hd186 : P 186 (x1 % P0 178 13) = P0 186 (x1 % P0 178 13) := R.2.1 _ _ (by omega)
        have rP := R.2.1.pr h.1.2
        obtain ⟨M1, P1, σ1, k1, y1, u', N1, X1, x4', x6', c1, c2, c3, c4⟩ := sh_in (n := n) (m := m) (v := P0 186 (x1 % P0 178 13)) (u0 := u) (x1 := x1) h ⟨v2, v3⟩ u3 (by omega) (P0 186 (x1 % P0 178 13)).toNat 0 M P σ k w N X (by omega) (by omega) (by rw [Int.add_zero]; exact R) hT
        obtain ⟨M', P', σ', k', w', u'', N', X', x1', g4, g5, g6, g, g', a1, a2, a3, a4⟩ := ih (x1 + 1) M1 P1 σ1 k1 y1 u' N1 X1 (0, P0 186 (x1 % P0 178 13)) (0, min (P0 178 16) (u + P0 186 (x1 % P0 178 13))) (0, x6') (0, P0 186 (x1 % P0 178 13)) (0, x4') (by omega) (by omega) c3 c4
        refine ⟨M', P', σ', k', w', u'', N', X', x1', g4, g5, g6, g, g', ?_, ?_, a3, a4⟩
        · rw [← a1, ← c1, q70_16, zg_pos (zk_36 n m), hT, if_neg (by omega), zg_pos (zk_27 n m), zg_pos (zk_25 n m), hM3, u1, if_neg f1, zg_pos (zk_27 n m), e2, zbI_ok, if_pos rfl, zg_pos (zk_36 n m), zg_pos (zk_25 n m), hT, e3, zbI_ok, zg_pos (zk_25 n m), zg_pos (zk_27 n m), u1, hM3, zg_pos (by unfold zI; omega), e221, zbI_ok, zg_pos (zk_27 n m), u1, Int.add_zero]
        · rw [← a2, ← c2, q169_17, zg_pos (zk_178 n m), zg_pos (zk_178 n m), hd, u2, if_neg f1, zg_pos (zk_178 n m), e1, zbI_ok, if_pos rfl, if_neg (by omega)]
          simp (disch := omega) only [hd13, hd186, ztm_p, zk_178, zk_186, zp_178_14 rP, zg_pos, ↓reduceIte, Int.reduceEq, Int.reduceLE, Int.reduceLT, Int.reduceAdd, Int.reduceSub, Int.reduceMul, Int.reduceNeg, zg_T, zbI_ok, zbL_ok, zbN_ok, zite1, zite2, zite3, zem, Int.cast_ofNat_Int, and_self, and_true, true_and, or_true, true_or, or_self, ite_not, if_true, if_false, not_true_eq_false, not_false_eq_true]
theorem o_show {q : Int} {M P : zM} (h : zRel q M P) (n m : Nat) : zOpn q 104 169 [] [(9, 0), (9, 0), (9, 0), (9, 0)] M P n m := by
  obtain ⟨⟨r0, r1⟩, rc, rh, rp, rb, rs, rw0, rx, ro, rk, rt, rr⟩ := id h
  obtain ⟨⟨a1, a2, a3⟩, ⟨b1, b2, b3⟩, c1, c2, c3⟩ := zcnt rc
  have k6 := e6 (d := (9, 0)) (d' := (9, 0)) (zCa2 r0 n m) (by simp only [Int.reduceAdd]; omega) (by simp only [Int.reduceAdd]; omega) (by simp only [Int.reduceAdd]; omega)
  rw [zga_un rc] at k6
  have l6 := e160 (n := n) (m := m) (d := (9, 0)) (d' := (9, 0)) (d'' := (9, 0)) r1 ⟨a2, a3⟩ ⟨b2, b3⟩ ⟨c2, c3⟩
  by_cases hz : zun0 P ≤ 0
  · -- the class's start
    generalize hA : zu (zu (zu M 36 4 0) 36 6 0) 36 7 0 = A
    have A0 : ∀ r y, (r ≠ 36 ∨ (y ≠ 4 ∧ y ≠ 6 ∧ y ≠ 7)) → A r y = M r y := fun r y hr => by
      rw [← hA]
      by_cases e : r = 36
      · rw [zun2 (by omega), zun2 (by omega), zun2 (by omega)]
      · rw [zun e, zun e, zun e]
    have A4 : A 36 4 = 0 ∧ A 36 6 = 0 ∧ A 36 7 = 0 := by
      rw [← hA]
      simp (disch := omega) only [zun2, zus]
      exact ⟨trivial, trivial, trivial⟩
    have FA : zFj M A := fun r y hr => A0 r y (by omega)
    obtain ⟨B, e1, e2, e3⟩ := e60 (n := n) (m := m) (d := (9, 0)) (FA.pc r0)
    have FB : zFj M B := FA.trans (fun r y hr => e3 r y (by omega))
    obtain ⟨D, g1, g2, g3, g4, g5⟩ := e61 (n := n) (m := m) (d := (9, 0)) (k := P 180) (sx := P 178 10) (sy := P 178 11) (sd := P 178 12) (FB.pc r0) (FB.cc h.cc) (by rw [FB _ _ (by omega), FB _ _ (by omega), FB _ _ (by omega), FB _ _ (by omega), FB _ _ (by omega)]; exact h.st) (fun a h0 h2 i i0 i1 => by
      have := (h.cc a h0 h2).2.1
      rw [e2 a h0 h2 i i0 (by omega), A0 _ _ (by omega)]
      exact h.kk a h0 h2 i i0 i1)
    have FD : zFj M D := FB.trans g5.j
    generalize hE : zu D 36 2 0 = E
    have E0 : ∀ r y, (r ≠ 36 ∨ y ≠ 2) → E r y = D r y := fun r y hr => by
      rw [← hE]
      by_cases e : r = 36
      · exact zun2 (by omega)
      · exact zun e
    have FE : zFj M E := FD.trans (fun r y hr => E0 r y (by omega))
    have EA : ∀ y, y ≠ 2 → E 36 y = A 36 y := fun y hy => by rw [E0 _ _ (by omega), g5 _ _ (by omega), e3 _ _ (by omega)]
    have rA := FA.pc r0
    have s1 : zex 70 0 [] [(2, 36), (2, 27), (2, 25), (2, 18), (9, 0), (9, 0), (9, 0)] M (zKs, n, m) = zex 70 16 [] [(2, 36), (2, 27), (2, 25), (2, 18), (9, 0), (9, 0), (9, 0)] E (zKs, n, m) := by
      rw [← hE, q70_0, zg_pos (zk_36 n m), q70_3, zg_pos (zk_36 n m), q70_6, zg_pos (zk_36 n m), hA, q70_9, zg_pos (zk_27 n m), e1, zbN_ok, zg_pos (zk_27 n m), g1, zbN_ok, zg_pos (zk_36 n m)]
    -- the reference's
    obtain ⟨P1, p1, p2, p3, p4⟩ := e161 (d := (9, 0)) r1 rs.2.2.2.2.2.1 rs.2.2.2.2.2.2.1
    generalize hQ : zu (zu P1 178 28 0) 178 58 0 = Q
    have Q0 : ∀ r y, (r ≠ 178 ∨ (y ≠ 28 ∧ y ≠ 58)) → Q r y = P1 r y := fun r y hr => by
      rw [← hQ]
      by_cases e : r = 178
      · rw [zun2 (by omega), zun2 (by omega)]
      · rw [zun e, zun e]
    have Q4 : Q 178 28 = 0 ∧ Q 178 58 = 0 := by
      rw [← hQ]
      simp (disch := omega) only [zun2, zus]
      exact ⟨trivial, trivial⟩
    have GQ : zFh P Q := p4.h.trans (fun r y hr => Q0 r y (by omega))
    have s2 : zex 169 0 [] [(2, 178), (9, 0), (9, 0), (9, 0), (9, 0)] P (zKs, n, m) = zex 169 17 [] [(2, 178), (0, 0), (0, 0), (9, 0), (9, 0)] Q (zKs, n, m) := by
      rw [← hQ]
      simp (disch := omega) only [q169_0, q169_10, q169_13, l6, hz, p1, zk_178, zg_pos, ↓reduceIte, Int.reduceEq, Int.reduceLE, Int.reduceLT, Int.reduceAdd, Int.reduceSub, Int.reduceMul, Int.reduceNeg, zg_T, zbI_ok, zbL_ok, zbN_ok, zite1, zite2, zite3, zem, Int.cast_ofNat_Int, and_self, and_true, true_and, or_true, true_or, or_self, ite_not, if_true, if_false, not_true_eq_false, not_false_eq_true]
    have R0 : zShR M P E Q (zs0 (P 178 10) (P 178 11) (P 178 12)) (P 180) (0, fun _ => 0, fun _ => 0, fun _ => 0) 0 0 0 := by
      obtain ⟨⟨⟨y0, y1, y2, y3⟩, y4⟩, ym⟩ := g2
      obtain ⟨⟨z0, z1, z2, z3, z4⟩, zm, zk⟩ := p2
      refine ⟨FE, GQ, ⟨⟨⟨?_, ?_, ?_, ?_⟩, ?_⟩, fun a x0 x2 => (ym a x0 x2).of (E0 _ _ (by omega)) (E0 _ _ (by omega)) (fun i => E0 _ _ (by omega))⟩, ⟨⟨?_, ?_, ?_, ?_, ?_⟩, fun a x0 x2 => ?_, fun i i0 i1 => ?_⟩, h.s0, ⟨?_, ?_, by omega, by omega⟩, ⟨⟨by rw [EA _ (by omega)]; exact A4.1, Q4.1⟩, by omega, fun i i0 i1 => by omega⟩, ⟨by rw [EA _ (by omega)]; exact A4.2.1, fun i (i0 : 0 ≤ i) (i1 : i < 0) _ => by omega⟩, ⟨Q4.2, fun i (i0 : 0 ≤ i) (i1 : i < 0) _ => by omega⟩, ⟨Int.le_refl _, Int.le_refl _⟩, by rw [EA _ (by omega)]; exact A4.2.2, by omega, by omega⟩
      · rw [E0 _ _ (by omega), y0]
      · rw [E0 _ _ (by omega), y1]
      · rw [E0 _ _ (by omega), y2]
      · rw [E0 _ _ (by omega), y3]
      · rw [E0 _ _ (by omega), y4]
      · rw [Q0 _ _ (by omega), z0]
      · rw [Q0 _ _ (by omega), z1]
      · rw [Q0 _ _ (by omega), z2]
      · rw [Q0 _ _ (by omega), z3]
      · rw [Q0 _ _ (by omega), z4]
      · rw [Q0 _ _ (by omega), Q0 _ _ (by omega)]
        exact zm a x0 x2
      · rw [Q0 _ _ (by omega)]
        exact zk i i0 i1
      · rw [E0 _ _ (by omega), g3]
      · rw [Q0 _ _ (by omega), p3]
    obtain ⟨M1, P2, σ, k, w, u, N, X, x1, c4, c5, c6, cc, cc', t1, t2, R, hT⟩ := sh_out (n := n) (m := m) h 9999 0 E Q _ _ _ 0 0 0 (9, 0) (9, 0) (9, 0) (9, 0) (9, 0) (by omega) (by omega) R0 (by rw [← hE, zus])
    obtain ⟨f0, f1, ⟨⟨⟨y0, y1, y2, y3⟩, y4⟩, ym⟩, ⟨⟨z0, z1, z2, z3, z4⟩, zm, zk⟩, ok, ⟨u1, u2, u3, u4⟩, ⟨⟨n1, n2⟩, n3, n4⟩, ⟨wc1, wc2⟩, ⟨wr1, wr2⟩, wb, xx, xx2, xx3⟩ := R
    have rM := f0.pc r0
    have rP := f1.pr r1
    have d1 := e52 (M := M1) (X := (zKs, n, m)) (r := 37) (s := 28) (zk_37 n m) (zk_28 n m) (by omega)
    rw [y0, y1, y2, y3, y4] at d1
    generalize hV : zu (zu (zu (zu (zu M1 37 0 σ.1.1) 37 1 σ.1.2.1) 37 2 σ.1.2.2.1) 37 3 σ.1.2.2.2) 37 4 σ.2.1 = V at d1
    have V0 : ∀ r y, r ≠ 37 → V r y = M1 r y := fun r y hr => by rw [← hV, zun hr, zun hr, zun hr, zun hr, zun hr]
    have V1 : V 37 0 = σ.1.1 ∧ V 37 1 = σ.1.2.1 ∧ V 37 2 = σ.1.2.2.1 ∧ V 37 3 = σ.1.2.2.2 ∧ V 37 4 = σ.2.1 := by
      rw [← hV]
      simp (disch := omega) only [zun2, zus]
      exact ⟨trivial, trivial, trivial, trivial, trivial⟩
    have t3 : zex 70 67 [] [(2, 36), (2, 27), (2, 25), (2, 18), c4, c5, c6] M1 (zKs, n, m) = some ((0, u), zu V 36 0 1, (zKs, n, m)) := by
      have v6 : V 27 6 = u := by rw [V0 _ _ (by omega), u1]
      simp (disch := omega) only [q70_67, q70_75, d1, v6, zk_27, zk_28, zk_36, zk_37, zp_36_1 rM, zp_27_2 rM, zun, zg_pos, ↓reduceIte, Int.reduceEq, Int.reduceLE, Int.reduceLT, Int.reduceAdd, Int.reduceSub, Int.reduceMul, Int.reduceNeg, zg_T, zbI_ok, zbL_ok, zbN_ok, zite1, zite2, zite3, zem, Int.cast_ofNat_Int, and_self, and_true, true_and, or_true, true_or, or_self, ite_not, if_true, if_false, not_true_eq_false, not_false_eq_true]
    have hk : P2 178 16 = P 178 16 := f1 _ _ (by omega)
    generalize hS : zu (zu (zu (zu (zu (zu (zu (zu (zu (zu (zu P2 178 26 1) 193 0 σ.1.1) 193 1 σ.1.2.1) 193 2 σ.1.2.2.1) 193 3 σ.1.2.2.2) 193 4 σ.2.1) 193 5 x1) 193 6 N) 193 7 w.1) 193 8 X) 178 33 (if 20 ≤ w.1 then 20 else w.1) = S
    have S0 : ∀ r y, r ≠ 193 → (r ≠ 178 ∨ (y ≠ 26 ∧ y ≠ 33)) → S r y = P2 r y := fun r y hr hy => by
      rw [← hS]
      by_cases e : r = 178
      · rw [zun2 (by omega), zun hr, zun hr, zun hr, zun hr, zun hr, zun hr, zun hr, zun hr, zun hr, zun2 (by omega)]
      · rw [zun e, zun hr, zun hr, zun hr, zun hr, zun hr, zun hr, zun hr, zun hr, zun hr, zun e]
    have S1 : (S 193 0 = σ.1.1 ∧ S 193 1 = σ.1.2.1 ∧ S 193 2 = σ.1.2.2.1 ∧ S 193 3 = σ.1.2.2.2 ∧ S 193 4 = σ.2.1) ∧ (S 193 5 = x1 ∧ S 193 6 = N ∧ S 193 7 = w.1 ∧ S 193 8 = X) ∧ S 178 26 = 1 ∧ S 178 33 = if 20 ≤ w.1 then 20 else w.1 := by
      rw [← hS]
      simp (disch := omega) only [zun, zun2, zus]
      exact ⟨⟨trivial, trivial, trivial, trivial, trivial⟩, ⟨trivial, trivial, trivial, trivial⟩, trivial, trivial⟩
    have t4 : zex 169 70 [] [(2, 178), (0, x1), (0, X), cc, cc'] P2 (zKs, n, m) = some ((0, u), S, (zKs, n, m)) := by
      rw [← hS]
      by_cases e : 20 ≤ w.1
      · simp (disch := omega) only [q169_70, q169_73, q169_79, q169_85, q169_91, q169_97, q169_103, q169_108, q169_114, q169_120, q169_125, q169_134, q169_135, zk_178, zk_193, zp_178_27 rP, z0, z1, z2, z3, z4, u2, n2, wr1, e, zun, zun2, zg_pos, ↓reduceIte, Int.reduceEq, Int.reduceLE, Int.reduceLT, Int.reduceAdd, Int.reduceSub, Int.reduceMul, Int.reduceNeg, zg_T, zbI_ok, zbL_ok, zbN_ok, zite1, zite2, zite3, zem, Int.cast_ofNat_Int, and_self, and_true, true_and, or_true, true_or, or_self, ite_not, if_true, if_false, not_true_eq_false, not_false_eq_true]
      · simp (disch := omega) only [q169_70, q169_73, q169_79, q169_85, q169_91, q169_97, q169_103, q169_108, q169_114, q169_120, q169_125, q169_134, q169_135, zk_178, zk_193, zp_178_27 rP, z0, z1, z2, z3, z4, u2, n2, wr1, e, zun, zun2, zg_pos, ↓reduceIte, Int.reduceEq, Int.reduceLE, Int.reduceLT, Int.reduceAdd, Int.reduceSub, Int.reduceMul, Int.reduceNeg, zg_T, zbI_ok, zbL_ok, zbN_ok, zite1, zite2, zite3, zem, Int.cast_ofNat_Int, and_self, and_true, true_and, or_true, true_or, or_self, ite_not, if_true, if_false, not_true_eq_false, not_false_eq_true]
    have F : zFj M (zu V 36 0 1) := fun r y hr => by
      have e : (r = 36 ∧ y ≠ 0) ∨ r ≠ 36 := by omega
      rcases e with e | e
      · rw [zun2 e.2, V0 _ _ (by omega), f0 _ _ hr]
      · rw [zun e, V0 _ _ (by omega), f0 _ _ hr]
    have G : zFh P S := fun r y hr => by rw [S0 _ _ (by omega) (by omega), f1 _ _ hr]
    have W36 : ∀ y, y ≠ 0 → zu V 36 0 1 36 y = M1 36 y := fun y hy => by rw [zun2 hy, V0 _ _ (by omega)]
    have Wr : ∀ r y, r ≠ 36 → r ≠ 37 → zu V 36 0 1 r y = M1 r y := fun r y hr hy => by rw [zun hr, V0 _ _ hy]
    have K : zRk (zu V 36 0 1) S := by
      obtain ⟨⟨v0, v1, v2, v3, v4⟩, ⟨v5, v6, v7, v8⟩, v9, v10⟩ := S1
      refine ⟨by rw [zus, v9], by rw [v9]; exact .inr rfl, fun _ => ⟨fun j j0 j1 => ?_, ?_, ?_, ?_, ?_, ?_, ?_, ?_, ?_, fun i i0 i1 => ?_, fun i i0 i1 => ?_⟩⟩
      · obtain ⟨x0, x1, x2, x3, x4⟩ := V1
        rw [zun (by omega)]
        rcases (by omega : j = 0 ∨ j = 1 ∨ j = 2 ∨ j = 3 ∨ j = 4) with rfl | rfl | rfl | rfl | rfl
        · rw [x0, v0]
        · rw [x1, v1]
        · rw [x2, v2]
        · rw [x3, v3]
        · rw [x4, v4]
      · rw [W36 _ (by omega), hT, v5]
      · rw [W36 _ (by omega), n1, v6]
      · rw [W36 _ (by omega), wc1, v7]
      · rw [W36 _ (by omega), xx, v8]
      · rw [v6, S0 _ _ (by omega) (by omega), n2]
      · rw [S0 _ _ (by omega) (by omega), n2]; exact n3
      · rw [v10, v7]; split <;> omega
      · rw [v7]; exact wb.1
      · rw [S0 _ _ (by omega) (by omega), n2] at i1
        rw [Wr _ _ (by omega) (by omega), Wr _ _ (by omega) (by omega), Wr _ _ (by omega) (by omega), Wr _ _ (by omega) (by omega), S0 _ _ (by omega) (by omega), S0 _ _ (by omega) (by omega), S0 _ _ (by omega) (by omega), S0 _ _ (by omega) (by omega)]
        exact n4 i i0 i1
      · rw [v10] at i1
        rw [Wr _ _ (by omega) (by omega), Wr _ _ (by omega) (by omega), Wr _ _ (by omega) (by omega), S0 _ _ (by omega) (by omega), S0 _ _ (by omega) (by omega), S0 _ _ (by omega) (by omega)]
        have i2 : i < w.1 ∧ i < 20 := by split at i1 <;> omega
        obtain ⟨x1, x2, x3⟩ := wc2 i i0 i2.1 i2.2
        obtain ⟨y1, y2, y3⟩ := wr2 i i0 i2.1 i2.2
        exact ⟨x1.trans y1.symm, x2.trans y2.symm, x3.trans y3.symm⟩
    refine ⟨u, zu V 36 0 1, S, ?_, fun r y hr => F r y (by omega), s2.trans (t2.trans t4), fun r y hr => G r y (by omega), ?_⟩
    · have s3 := s1.trans (t1.trans t3)
      simp (disch := omega) only [q104_0, k6, hz, s3, zk_1, zk_2, zk_36, zp_1_0 r0, zp_1_2 r0, zp_1_3 r0, zp_1_4 r0, zp_1_5 r0, zg_pos, ↓reduceIte, Int.reduceEq, Int.reduceLE, Int.reduceLT, Int.reduceAdd, Int.reduceSub, Int.reduceMul, Int.reduceNeg, zg_T, zbI_ok, zbL_ok, zbN_ok, zite1, zite2, zite3, zem, Int.cast_ofNat_Int, and_self, and_true, true_and, or_true, true_or, or_self, ite_not, if_true, if_false, not_true_eq_false, not_false_eq_true]
    · have u1 : ∀ r y, (r < 27 ∨ 46 < r) → zu V 36 0 1 r y = M r y := fun r y hr => F r y (by omega)
      have u2 : ∀ r y, ((r = 178 ∧ y ≠ 26 ∧ y ≠ 28 ∧ y ≠ 33 ∧ (y < 52 ∨ 58 < y)) ∨ (178 < r ∧ r < 193) ∨ (200 < r ∧ r < 212)) → S r y = P r y := fun r y hr => G r y (by omega)
      exact ⟨⟨F.pc r0, G.pr r1⟩, rc.of (by (intros; first | rfl | (simp (disch := omega) only [u1, u2, and_self]))) (by (intros; first | rfl | (simp (disch := omega) only [u1, u2, and_self]))) (by (intros; first | rfl | (simp (disch := omega) only [u1, u2, and_self]))), (by (simp (disch := omega) only [u1, u2]; exact rh)), rp.of (by (intros; first | rfl | (simp (disch := omega) only [u1, u2, and_self]))) (by (intros; first | rfl | (simp (disch := omega) only [u1, u2, and_self]))) (by (intros; first | rfl | (simp (disch := omega) only [u1, u2, and_self]))) (by (intros; first | rfl | (simp (disch := omega) only [u1, u2, and_self]))), rb.of (by (intros; first | rfl | (simp (disch := omega) only [u1, u2, and_self]))) (by (intros; first | rfl | (simp (disch := omega) only [u1, u2, and_self]))) (by (intros; first | rfl | (simp (disch := omega) only [u1, u2, and_self]))), rs.of (by (intros; first | rfl | (simp (disch := omega) only [u1, u2, and_self]))) (by (intros; first | rfl | (simp (disch := omega) only [u1, u2, and_self]))) (by (intros; first | rfl | (simp (disch := omega) only [u1, u2, and_self]))) (by (intros; first | rfl | (simp (disch := omega) only [u1, u2, and_self]))), rw0.of (by (intros; first | rfl | (simp (disch := omega) only [u1, u2, and_self]))) (by (intros; first | rfl | (simp (disch := omega) only [u1, u2, and_self]))) (by (intros; first | rfl | (simp (disch := omega) only [u1, u2, and_self]))) (by (intros; first | rfl | (simp (disch := omega) only [u1, u2, and_self]))) (by (intros; first | rfl | (simp (disch := omega) only [u1, u2, and_self]))) (by (intros; first | rfl | (simp (disch := omega) only [u1, u2, and_self]))), rx.of (by (intros; first | rfl | (simp (disch := omega) only [u1, u2, and_self]))) (by (intros; first | rfl | (simp (disch := omega) only [u1, u2, and_self]))) (by (intros; first | rfl | (simp (disch := omega) only [u1, u2, and_self]))) (by (intros; first | rfl | (simp (disch := omega) only [u1, u2, and_self]))), ro.of (by (intros; first | rfl | (simp (disch := omega) only [u1, u2, and_self]))) (by (intros; first | rfl | (simp (disch := omega) only [u1, u2, and_self]))) (by (intros; first | rfl | (simp (disch := omega) only [u1, u2, and_self]))) (by (intros; first | rfl | (simp (disch := omega) only [u1, u2, and_self]))), K, rt.of (by (intros; first | rfl | (simp (disch := omega) only [u1, u2, and_self]))) (by (intros; first | rfl | (simp (disch := omega) only [u1, u2, and_self]))), (by (simp (disch := omega) only [u1, u2]; exact rr))⟩
  · refine ⟨-3, M, P, ?_, zCf.rfl, ?_, zRf.rfl, h⟩
    · simp (disch := omega) only [q104_0, k6, hz, zk_1, zk_2, zp_1_0 r0, zg_pos, ↓reduceIte, Int.reduceEq, Int.reduceLE, Int.reduceLT, Int.reduceAdd, Int.reduceSub, Int.reduceMul, Int.reduceNeg, zg_T, zbI_ok, zbL_ok, zbN_ok, zite1, zite2, zite3, zem, Int.cast_ofNat_Int, and_self, and_true, true_and, or_true, true_or, or_self, ite_not, if_true, if_false, not_true_eq_false, not_false_eq_true]
    · simp (disch := omega) only [q169_0, l6, hz, zk_178, zg_pos, ↓reduceIte, Int.reduceEq, Int.reduceLE, Int.reduceLT, Int.reduceAdd, Int.reduceSub, Int.reduceMul, Int.reduceNeg, zg_T, zbI_ok, zbL_ok, zbN_ok, zite1, zite2, zite3, zem, Int.cast_ofNat_Int, and_self, and_true, true_and, or_true, true_or, or_self, ite_not, if_true, if_false, not_true_eq_false, not_false_eq_true]
