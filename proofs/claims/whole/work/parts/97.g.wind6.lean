/-! WINDINGS: the parts of a wish -/
theorem zfm.wf {M M1 : zM} (h : zfm M M1) : zWF M M1 := fun r y hr => h r y (by omega)
theorem zfpu.wg {P P1 : zM} (h : zfpu P P1) : zWG P P1 := fun r y hr => h r y (by omega)
theorem zRn.of2 {M P M1 P1 : zM} (h : zRn M P) (u1 : ∀ r y, 53 ≤ r → r ≤ 64 → M1 r y = M r y) (u2 : ∀ y, M1 47 y = M 47 y) (u3 : ∀ r y, r ≠ 216 → P1 r y = P r y) : zRn M1 P1 := ⟨by rw [u2, u3 _ _ (by omega)]; exact h.1, by rw [u2, u3 _ _ (by omega)]; exact h.2.1, h.2.2.of u1 (fun r y _ _ => u3 r y (by omega)) (u3 _ _ (by omega))⟩
theorem zSt.of2 {M P M1 P1 : zM} {s : Int} (h : zSt M P s) (u2 : ∀ y, M1 47 y = M 47 y) (u3 : ∀ r y, r ≠ 216 → P1 r y = P r y) : zSt M1 P1 s := by
  have e : P1 185 = P 185 := funext fun t => u3 _ _ (by omega)
  unfold zSt
  rw [u2, u2, u2, u2, u3 178 5 (by omega), e]
  exact h
theorem zSt.of3 {M P M1 P1 : zM} {s : Int} (h : zSt M P s) (u1 : zfcu M M1) (u2 : zfpu P P1) : zSt M1 P1 s := by
  have e : P1 185 = P 185 := funext fun t => u2 _ _ (by omega)
  unfold zSt
  rw [u1 47 6 (by omega), u1 47 7 (by omega), u1 47 8 (by omega), u1 47 9 (by omega), u2 178 5 (by omega), e]
  exact h
/-- GO, on either side -/
theorem e87R {q : Int} {M P : zM} (h : zRel q M P) (n m : Nat) {s p gx gy : Int} {d3 : zV} (R : zRn M P) (S : zSt M P s) (hg : (0 ≤ gx ∧ gx ≤ 31) ∧ 0 ≤ gy ∧ gy ≤ 31) (hb : 0 ≤ M 47 5 ∧ M 47 5 ≤ 300000000) : ∃ M1 P1 Q, zex 182 0 [] [(2, 178), (0, gx), (0, gy), (9, 0), (9, 0), (9, 0), (9, 0)] P (zKs, n, m) = some ((9, 0), Q, (zKs, n, m)) ∧ zPR Q ∧ zWF M M1 ∧ zWG P P1 ∧ ((zex 87 0 [] [(2, 47), (0, gx), (0, gy), (9, 0), (9, 0), (9, 0)] M (zKs, n, m) = some ((0, 0), M1, (zKs, n, m)) ∧ Q 216 s = -1 ∧ P1 = Q) ∨ ∃ s1 c3, zex 87 0 [] [(2, 47), (0, gx), (0, gy), (9, 0), (9, 0), (9, 0)] M (zKs, n, m) = some ((0, 1), M1, (zKs, n, m)) ∧ Q 216 s ≠ -1 ∧ zex 187 84 [] [(2, 178), (0, s), (0, p), d3] Q (zKs, n, m) = zex 187 202 [] [(2, 178), (0, s1), (0, p), c3] P1 (zKs, n, m) ∧ zRn M1 P1 ∧ zSt M1 P1 s1 ∧ M 47 5 ≤ M1 47 5 ∧ M1 47 5 ≤ M 47 5 + 131072) := by
  obtain ⟨⟨r0, r1⟩, rc, rh, rp, rb, rs, rw0, rx, ro, rk, rt, rr⟩ := id h
  obtain ⟨s1, s2, s3, s4⟩ := id S
  obtain ⟨v, M1, Q, D, a1, a2, a3, a4, a5, a6, a7⟩ := h.srch n m (x := M 47 6) (y := M 47 7) (k := M 47 8) (gx := gx) (gy := gy) (d7 := (9, 0)) (d8 := (9, 0)) (d9 := (9, 0)) (d3 := (9, 0)) (d4 := (9, 0)) (d5 := (9, 0)) (d6 := (9, 0)) s1 s2 hg
  have w1 : zWF M M1 := fun r t hr => a3 r t (by omega)
  have w2 : zWG P Q := fun r t hr => a4 r t (by omega)
  have u47 : ∀ y, M1 47 y = M 47 y := fun y => a3 _ _ (by omega)
  have uw : ∀ r y, 53 ≤ r → r ≤ 64 → M1 r y = M r y := fun r y _ _ => a3 r y (by omega)
  have e185 : Q 185 = P 185 := funext fun t => a4 _ _ (by omega)
  have e5 : Q 178 5 = P 178 5 := a4 _ _ (by omega)
  have hs := S.le
  rw [← s3] at a7
  rcases a7 with ⟨b1, b2⟩ | ⟨b1, b2, b3⟩
  · refine ⟨M1, Q, Q, a2, w2.pr r1, w1, w2, .inl ⟨?_, b2, rfl⟩⟩
    rw [q87_0, zg_pos ⟨zk_47 n m, by rw [zp_47_0 r0]; omega⟩, zg_pos (zk_47 n m), zg_pos (zk_47 n m), zg_pos (zk_47 n m), zg_pos (zk_47 n m), zp_47_0 r0, zg_pos (zk_18 n m), s4, a1, zbI_ok, b1, if_neg (by omega), zg_pos (.inl rfl)]
  · have g : D (zpi s) = v := by rw [← a6 s hs.1 hs.2]; exact b2
    have gb := a5.2.2.2 (zpi s)
    have ct := zcnt_le (D := D) (g := v)
    obtain ⟨M2, P2, s5, c3, c1, c2, c4, c5, c6, c7, c8⟩ := zgo_lp (n := n) (m := m) (D := D) (gx := gx) (gy := gy) (p := p) (K := v) v.toNat M1 Q s v 0 (9, 0) d3 (w1.pc r0) (w2.pr r1) (fun y y0 y1 => by rw [a3 _ _ (by omega), e185]; exact (rb.1 y y0 y1).1) (by rw [e5]; exact rh.2) (by rw [e185, e5]; exact a5) a6 (R.of2 uw u47 a4) (S.of2 u47 a4) g b1 (by omega) b3 (by omega) (by omega) (by omega) (by rw [u47]; exact hb.1) (by rw [u47]; omega)
    have u5 := u47 5
    refine ⟨M2, P2, Q, a2, w2.pr r1, w1.trans c7.wf, w2.trans c8.wg, .inr ⟨s5, c3, ?_, by omega, c2, c4, c5, by omega, by omega⟩⟩
    rw [q87_0, zg_pos ⟨zk_47 n m, by rw [zp_47_0 r0]; omega⟩, zg_pos (zk_47 n m), zg_pos (zk_47 n m), zg_pos (zk_47 n m), zg_pos (zk_47 n m), zp_47_0 r0, zg_pos (zk_18 n m), s4, a1, zbI_ok, if_pos b1]
    exact c1
/-- FACE, a turn -/
theorem r187_f {M P : zM} (n m : Nat) {s p k w : Int} (r0 : zPC M) (r1 : zPR P) (R : zRn M P) (S : zSt M P s) (hh : 1 ≤ P 178 5 ∧ P 178 5 ≤ 8) (hw : (k = 2 ∧ w = 1) ∨ (k = 3 ∧ w = 0)) (hb : 0 ≤ M 47 5 ∧ M 47 5 ≤ 1000000000) : ∃ M1 P1, zex 89 0 [] [(2, 47), (0, k)] M (zKs, n, m) = some ((9, 0), M1, (zKs, n, m)) ∧ (∀ d3, zex 187 188 [(0, w)] [(2, 178), (0, s), (0, p), d3] P (zKs, n, m) = zex 187 167 [] [(2, 178), (0, zmv (P 185) s k), (0, p), (0, w)] P1 (zKs, n, m)) ∧ zRn M1 P1 ∧ zSt M1 P1 (zmv (P 185) s k) ∧ M1 47 5 = M 47 5 + 4 * P 178 5 ∧ zfm M M1 ∧ zfpu P P1 := by
  obtain ⟨M1, P1, a1, a2, a3, a4, a5, a6, a7⟩ := e89T n m (k := k) r0 r1 R S hh (by omega) hb
  have hs := S.le
  have c1 := e180 (P := P1) (n := n) (m := m) (s := s) (k := k) (d3 := (9, 0)) (d4 := (9, 0)) (d5 := (9, 0)) (d6 := (9, 0)) (d7 := (9, 0)) (d8 := (9, 0)) (a7.pr r1) hs (by omega)
  rw [show P1 185 = P 185 from funext fun t => a7 _ _ (by omega)] at c1
  have a2' : zex 186 0 [] [(2, 178), (0, w)] P (zKs, n, m) = some ((9, 0), P1, (zKs, n, m)) := by
    rcases hw with ⟨rfl, rfl⟩ | ⟨rfl, rfl⟩
    · rw [if_pos (c := (2 : Int) = 2) rfl] at a2; exact a2
    · rw [if_neg (c := (3 : Int) = 2) (by omega)] at a2; exact a2
  refine ⟨M1, P1, a1, fun d3 => ?_, a3, a4, a5, a6, a7⟩
  rw [q187_188, zg_pos (zk_178 n m), a2', zbN_ok]
  rcases hw with ⟨rfl, rfl⟩ | ⟨rfl, rfl⟩
  · rw [if_neg (c := (1 : Int) = 0) (by omega), q187_199, zg_pos (zk_178 n m), c1, zbI_ok]
  · rw [if_pos (c := (0 : Int) = 0) rfl, q187_199, zg_pos (zk_178 n m), c1, zbI_ok]
theorem q187_h {P : zM} {n m : Nat} {s p a : Int} {d3 : zV} (r1 : zPR P) (hs : 0 ≤ s ∧ s < 4096) (hp : 0 ≤ p ∧ p < 20) (ha : P 188 p = a) : zex 187 167 [] [(2, 178), (0, s), (0, p), d3] P (zKs, n, m) = if s % 4 = a then zex 187 202 [] [(2, 178), (0, s), (0, p), d3] P (zKs, n, m) else if (s + 3) % 4 = a then zex 187 188 [(0, 0)] [(2, 178), (0, s), (0, p), d3] P (zKs, n, m) else zex 187 188 [(0, 1)] [(2, 178), (0, s), (0, p), d3] P (zKs, n, m) := by
  rw [q187_167, zg_pos (c := (0 : Int) < 4) (by omega), zg_pos ⟨zk_178 n m, by rw [zp_178_19 r1]; omega⟩, zp_178_19 r1, zg_pos ⟨by rw [zk_188], hp.1, by rw [zk_188]; dsimp only; omega⟩, ztm_p hs.1, ha, zg_pos (c := zI (s + 3)) (by unfold zI; omega), zg_pos (c := (0 : Int) < 4) (by omega), zg_pos ⟨zk_178 n m, by omega⟩, zg_pos ⟨by rw [zk_188], hp.1, by rw [zk_188]; dsimp only; omega⟩, ztm_p (by omega)]
theorem e88R {M P : zM} (n m : Nat) {s p a : Int} {d3 : zV} (r0 : zPC M) (r1 : zPR P) (R : zRn M P) (S : zSt M P s) (hh : 1 ≤ P 178 5 ∧ P 178 5 ≤ 8) (hp : 0 ≤ p ∧ p < 20) (ha : 0 ≤ a ∧ a ≤ 3) (hW : P 188 p = a) (hb : 0 ≤ M 47 5 ∧ M 47 5 ≤ 300000000) : ∃ M1 P1 s1 c3, zex 88 0 [] [(2, 47), (0, a)] M (zKs, n, m) = some ((9, 0), M1, (zKs, n, m)) ∧ zex 187 167 [] [(2, 178), (0, s), (0, p), d3] P (zKs, n, m) = zex 187 202 [] [(2, 178), (0, s1), (0, p), c3] P1 (zKs, n, m) ∧ zRn M1 P1 ∧ zSt M1 P1 s1 ∧ M 47 5 ≤ M1 47 5 ∧ M1 47 5 ≤ M 47 5 + 64 ∧ zfm M M1 ∧ zfpu P P1 := by
  have hs := S.le
  obtain ⟨S1, S2, S3, S4⟩ := id S
  have sq : s % 4 = M 47 8 := by omega
  have H := q187_h (n := n) (m := m) (d3 := d3) r1 hs hp hW
  have mv2 : ∀ b t, zmv b t 2 = t - t % 4 + (t % 4 + 1) % 4 := fun b t => by unfold zmv; rw [if_neg (by omega), if_pos rfl]
  have mv3 : ∀ b t, zmv b t 3 = t - t % 4 + (t % 4 + 3) % 4 := fun b t => by unfold zmv; rw [if_neg (by omega), if_neg (by omega)]
  have hd : zex 88 0 [] [(2, 47), (0, a)] M (zKs, n, m) = if (a - M 47 8) % 4 = (1 : Int) then zbN (zex 89 0 [] [(2, 47), (0, (2 : Int))] M (zKs, n, m)) (fun M4 X4 => zex 88 22 [] [(2, 47), (0, a)] M4 X4) else if (a - M 47 8) % 4 = (2 : Int) then zbN (zex 89 0 [] [(2, 47), (0, (2 : Int))] M (zKs, n, m)) (fun M2 X2 => zg (zkd X2 47 = (16, 0)) (zbN (zex 89 0 [] [(2, 47), (0, (2 : Int))] M2 X2) (fun M3 X3 => zex 88 22 [] [(2, 47), (0, a)] M3 X3))) else if (a - M 47 8) % 4 = (3 : Int) then zbN (zex 89 0 [] [(2, 47), (0, (3 : Int))] M (zKs, n, m)) (fun M1 X1 => zex 88 22 [] [(2, 47), (0, a)] M1 X1) else zex 88 22 [] [(2, 47), (0, a)] M (zKs, n, m) := by
    rw [q88_0, zg_pos (zk_47 n m), zg_pos (by unfold zI; omega), zg_pos (.inr (.inl rfl)), show (3 : Int) + 1 = 4 by omega, zg_pos (zk_47 n m), zg_pos (zk_47 n m), zg_pos (zk_47 n m)]
  have e : (a - M 47 8) % 4 = 0 ∨ (a - M 47 8) % 4 = 1 ∨ (a - M 47 8) % 4 = 2 ∨ (a - M 47 8) % 4 = 3 := by omega
  rcases e with e | e | e | e
  · refine ⟨M, P, s, d3, ?_, by rw [H, if_pos (by omega)], R, S, by omega, by omega, fun _ _ _ => rfl, fun _ _ _ => rfl⟩
    rw [hd, if_neg (by omega), if_neg (by omega), if_neg (by omega), q88_22]
  · obtain ⟨M1, P1, a1, a2, a3, a4, a5, a6, a7⟩ := r187_f n m (p := p) (k := 2) (w := 1) r0 r1 R S hh (.inl ⟨rfl, rfl⟩) (by omega)
    have v := mv2 (P 185) s
    have H1 := q187_h (n := n) (m := m) (a := a) (d3 := (0, 1)) (a7.pr r1) a4.le hp (by rw [a7 _ _ (by omega)]; exact hW)
    refine ⟨M1, P1, zmv (P 185) s 2, (0, 1), ?_, by rw [H, if_neg (by omega), if_neg (by omega), a2, H1, if_pos (by omega)], a3, a4, by omega, by omega, a6, a7⟩
    rw [hd, if_pos e, a1, zbN_ok, q88_22]
  · obtain ⟨M1, P1, a1, a2, a3, a4, a5, a6, a7⟩ := r187_f n m (p := p) (k := 2) (w := 1) r0 r1 R S hh (.inl ⟨rfl, rfl⟩) (by omega)
    have v := mv2 (P 185) s
    have h5 : P1 178 5 = P 178 5 := a7 _ _ (by omega)
    have H1 := q187_h (n := n) (m := m) (a := a) (d3 := (0, 1)) (a7.pr r1) a4.le hp (by rw [a7 _ _ (by omega)]; exact hW)
    obtain ⟨M2, P2, b1, b2, b3, b4, b5, b6, b7⟩ := r187_f n m (p := p) (k := 2) (w := 1) (a6.pc r0) (a7.pr r1) a3 a4 (by omega) (.inl ⟨rfl, rfl⟩) (by omega)
    have v2 := mv2 (P1 185) (zmv (P 185) s 2)
    have H2 := q187_h (n := n) (m := m) (a := a) (d3 := (0, 1)) (b7.pr (a7.pr r1)) b4.le hp (by rw [b7 _ _ (by omega), a7 _ _ (by omega)]; exact hW)
    refine ⟨M2, P2, _, (0, 1), ?_, by rw [H, if_neg (by omega), if_neg (by omega), a2, H1, if_neg (by omega), if_neg (by omega), b2, H2, if_pos (by omega)], b3, b4, by omega, by omega, a6.trans b6, a7.trans b7⟩
    rw [hd, if_neg (by omega), if_pos e, a1, zbN_ok, zg_pos (zk_47 n m), b1, zbN_ok, q88_22]
  · obtain ⟨M1, P1, a1, a2, a3, a4, a5, a6, a7⟩ := r187_f n m (p := p) (k := 3) (w := 0) r0 r1 R S hh (.inr ⟨rfl, rfl⟩) (by omega)
    have v := mv3 (P 185) s
    have H1 := q187_h (n := n) (m := m) (a := a) (d3 := (0, 0)) (a7.pr r1) a4.le hp (by rw [a7 _ _ (by omega)]; exact hW)
    refine ⟨M1, P1, zmv (P 185) s 3, (0, 0), ?_, by rw [H, if_neg (by omega), if_pos (by omega), a2, H1, if_pos (by omega)], a3, a4, by omega, by omega, a6, a7⟩
    rw [hd, if_neg (by omega), if_neg (by omega), if_pos e, a1, zbN_ok, q88_22]
/-- where a part begins, on either side -/
theorem q86_h {M : zM} {n m : Nat} {x2 i : Int} {d4 : zV} (r0 : zPC M) (hi : 0 ≤ i ∧ i < M 47 1) (hc : M 47 1 ≤ 20) : zex 86 40 [] [(2, 47), (2, 17), (0, x2), (0, i), d4] M (zKs, n, m) = if M 49 i = (0 : Int) then zbI (zex 87 0 [] [(2, 47), (0, M 50 i), (0, M 51 i), (9, 0), (9, 0), (9, 0)] M (zKs, n, m)) (fun v4 M4 X4 => if v4 = 0 then some ((0, ((-100 : Int) - i)), M4, X4) else zex 86 89 [] [(2, 47), (2, 17), (0, x2), (0, i), (0, M 50 i)] M4 X4) else if M 49 i = (1 : Int) then zbN (zex 90 0 [] [(2, 47), (0, (2 : Int)), (0, (2 : Int)), (0, (2 : Int)), (0, M 50 i), (9, 0)] M (zKs, n, m)) (fun M3 X3 => zex 86 89 [] [(2, 47), (2, 17), (0, x2), (0, i), (0, M 50 i)] M3 X3) else if M 49 i = (2 : Int) then zbN (zex 90 0 [] [(2, 47), (0, (2 : Int)), (0, (2 : Int)), (0, (0 : Int)), (0, M 50 i), (9, 0)] M (zKs, n, m)) (fun M2 X2 => zex 86 89 [] [(2, 47), (2, 17), (0, x2), (0, i), (0, M 50 i)] M2 X2) else zbN (zex 88 0 [] [(2, 47), (0, M 50 i)] M (zKs, n, m)) (fun M1 X1 => zex 86 89 [] [(2, 47), (2, 17), (0, x2), (0, i), (0, M 50 i)] M1 X1) := by
  rw [q86_40, zg_pos (zk_47 n m), if_neg (by omega), zg_pos ⟨zk_47 n m, by rw [zp_47_2 r0]; omega⟩, zp_47_2 r0, zg_pos ⟨by rw [zk_48], by omega, by rw [zk_48]; dsimp only; omega, by rw [zp_48_1 r0]; omega⟩, zp_48_1 r0, zg_pos ⟨by rw [zk_50], hi.1, by rw [zk_50]; dsimp only; omega⟩, zg_pos ⟨zk_47 n m, by omega⟩, zg_pos ⟨by rw [zk_48], by omega, by rw [zk_48]; dsimp only; omega, by rw [zp_48_0 r0]; omega⟩, zp_48_0 r0, zg_pos ⟨by rw [zk_49], hi.1, by rw [zk_49]; dsimp only; omega⟩, zg_pos ⟨zk_47 n m, by omega⟩, zg_pos ⟨by rw [zk_48], by omega, by rw [zk_48]; dsimp only; omega, by rw [zp_48_2 r0]; omega⟩, zp_48_2 r0, zg_pos ⟨by rw [zk_51], hi.1, by rw [zk_51]; dsimp only; omega⟩, zg_pos (zk_47 n m), zg_pos (zk_47 n m), zg_pos (zk_47 n m), zg_pos (zk_47 n m)]
  have z : ∀ (α : Type) (y : Option α), zg (zI ((-100 : Int) - i)) y = y := fun α y => zg_pos (by unfold zI; omega)
  simp only [z]
theorem q187_p {P : zM} {n m : Nat} {s i : Int} {d3 : zV} (r1 : zPR P) (hi : 0 ≤ i ∧ i < P 178 17) (hc : P 178 17 ≤ 20) : zex 187 55 [] [(2, 178), (0, s), (0, i), d3] P (zKs, n, m) = if P 187 i = (0 : Int) then zbN (zex 182 0 [] [(2, 178), (0, P 188 i), (0, P 189 i), (9, 0), (9, 0), (9, 0), (9, 0)] P (zKs, n, m)) (fun M3 X3 => zg (zkd X3 178 = (18, 0) ∧ 0 < (M3 178 59)) (zg ((zkd X3 (M3 178 59)).1 = 0 ∧ 0 ≤ s ∧ s < ((zkd X3 (M3 178 59)).2 : Int)) (if (M3 (M3 178 59) s) = (-1 : Int) then zg (zI ((-100 : Int) - i)) (some ((0, ((-100 : Int) - i)), M3, X3)) else zex 187 84 [] [(2, 178), (0, s), (0, i), d3] M3 X3))) else if P 187 i = (1 : Int) then zbN (zex 185 0 [] [(2, 178), (0, (2 : Int)), (0, (2 : Int)), (0, (2 : Int)), (0, P 188 i)] P (zKs, n, m)) (fun M2 X2 => zex 187 202 [] [(2, 178), (0, s), (0, i), d3] M2 X2) else if P 187 i = (2 : Int) then zbN (zex 185 0 [] [(2, 178), (0, (2 : Int)), (0, (2 : Int)), (0, (0 : Int)), (0, P 188 i)] P (zKs, n, m)) (fun M1 X1 => zex 187 202 [] [(2, 178), (0, s), (0, i), d3] M1 X1) else zex 187 167 [] [(2, 178), (0, s), (0, i), d3] P (zKs, n, m) := by
  rw [q187_55, zg_pos (zk_178 n m), if_neg (by omega), zg_pos ⟨zk_178 n m, by rw [zp_178_18 r1]; omega⟩, zp_178_18 r1, zg_pos ⟨by rw [zk_187], hi.1, by rw [zk_187]; dsimp only; omega⟩, zg_pos ⟨zk_178 n m, by rw [zp_178_19 r1]; omega⟩, zp_178_19 r1, zg_pos ⟨by rw [zk_188], hi.1, by rw [zk_188]; dsimp only; omega⟩, zg_pos ⟨zk_178 n m, by rw [zp_178_20 r1]; omega⟩, zp_178_20 r1, zg_pos ⟨by rw [zk_189], hi.1, by rw [zk_189]; dsimp only; omega⟩, zg_pos (zk_178 n m), zg_pos ⟨zk_178 n m, by omega⟩, zg_pos ⟨by rw [zk_188], hi.1, by rw [zk_188]; dsimp only; omega⟩, zg_pos (zk_178 n m), zg_pos ⟨zk_178 n m, by omega⟩, zg_pos ⟨by rw [zk_188], hi.1, by rw [zk_188]; dsimp only; omega⟩, zg_pos (zk_178 n m)]
/-- one part -/
theorem p86_st {q : Int} {M P : zM} (h : zRel q M P) (n m : Nat) {s i x2 : Int} {d4 d3 : zV} (R : zRn M P) (S : zSt M P s) (hi : 0 ≤ i ∧ i < P 178 17) (hb : 0 ≤ M 47 5 ∧ M 47 5 ≤ 200000 * i) : ∃ M1 P1, zWF M M1 ∧ zWG P P1 ∧ ((zex 86 40 [] [(2, 47), (2, 17), (0, x2), (0, i), d4] M (zKs, n, m) = some ((0, (-100 : Int) - i), M1, (zKs, n, m)) ∧ zex 187 55 [] [(2, 178), (0, s), (0, i), d3] P (zKs, n, m) = some ((0, (-100 : Int) - i), P1, (zKs, n, m))) ∨ ∃ s1 c4 c3, zex 86 40 [] [(2, 47), (2, 17), (0, x2), (0, i), d4] M (zKs, n, m) = zex 86 89 [] [(2, 47), (2, 17), (0, x2), (0, i), (0, c4)] M1 (zKs, n, m) ∧ zex 187 55 [] [(2, 178), (0, s), (0, i), d3] P (zKs, n, m) = zex 187 202 [] [(2, 178), (0, s1), (0, i), c3] P1 (zKs, n, m) ∧ zRn M1 P1 ∧ zSt M1 P1 s1 ∧ 0 ≤ M1 47 5 ∧ M1 47 5 ≤ 200000 * (i + 1)) := by
  obtain ⟨⟨r0, r1⟩, rc, rh, rp, rb, rs, rw0, rx, ro, rk, rt, rr⟩ := id h
  obtain ⟨x1, x4, x3⟩ := id rx
  obtain ⟨y1, y2, y3, y4⟩ := x3 i hi.1 hi.2
  have hC := q86_h (n := n) (m := m) (x2 := x2) (d4 := d4) r0 (i := i) (by rw [x1]; exact hi) (by rw [x1]; exact x4.2)
  have hR := q187_p (n := n) (m := m) (s := s) (d3 := d3) r1 hi x4.2
  rw [y1, y2, y3] at hC
  rcases y4 with ⟨k0, ha, hb'⟩ | ⟨k1, ha, -⟩ | ⟨k3, ha, -⟩
  · rw [if_pos k0] at hC hR
    obtain ⟨M1, P1, Q, a1, a2, a4, a5, a6⟩ := e87R h n m (s := s) (p := i) (gx := P 188 i) (gy := P 189 i) (d3 := d3) R S ⟨ha, hb'⟩ (by omega)
    have hs := S.le
    rw [a1, zbN_ok, zg_pos ⟨zk_178 n m, by rw [zp_178_59 a2]; omega⟩, zp_178_59 a2, zg_pos ⟨by rw [zk_216], hs.1, by rw [zk_216]; dsimp only; omega⟩] at hR
    rcases a6 with ⟨b1, b2, b3⟩ | ⟨s1, c3, b1, b2, b3, b4, b5, b6, b7⟩
    · rw [b1, zbI_ok, if_pos (c := (0 : Int) = 0) rfl] at hC
      rw [if_pos b2, zg_pos (by unfold zI; omega)] at hR
      exact ⟨M1, P1, a4, a5, .inl ⟨hC, by rw [b3]; exact hR⟩⟩
    · rw [b1, zbI_ok, if_neg (c := (1 : Int) = 0) (by omega)] at hC
      rw [if_neg b2, b3] at hR
      exact ⟨M1, P1, a4, a5, .inr ⟨s1, _, c3, hC, hR, b4, b5, by omega, by omega⟩⟩
  · rcases k1 with k1 | k1
    · rw [if_neg (by omega), if_pos k1] at hC hR
      obtain ⟨M1, P1, a1, a2, a3, a4, a5, a6⟩ := e90R n m (l := 2) (r := 2) (s := 2) (u := P 188 i) r0 r1 R (by omega) (by omega) (by omega) (by omega) (by omega)
      rw [a1, zbN_ok] at hC
      rw [a2, zbN_ok] at hR
      exact ⟨M1, P1, a5.m.wf, a6.wg, .inr ⟨s, _, d3, hC, hR, a3, S.of3 a5 a6, by omega, by omega⟩⟩
    · rw [if_neg (by omega), if_neg (by omega), if_pos k1] at hC hR
      obtain ⟨M1, P1, a1, a2, a3, a4, a5, a6⟩ := e90R n m (l := 2) (r := 2) (s := 0) (u := P 188 i) r0 r1 R (by omega) (by omega) (by omega) (by omega) (by omega)
      rw [a1, zbN_ok] at hC
      rw [a2, zbN_ok] at hR
      exact ⟨M1, P1, a5.m.wf, a6.wg, .inr ⟨s, _, d3, hC, hR, a3, S.of3 a5 a6, by omega, by omega⟩⟩
  · rw [if_neg (by omega), if_neg (by omega), if_neg (by omega)] at hC hR
    obtain ⟨M1, P1, s1, c3, a1, a2, a3, a4, a5, a6, a7, a8⟩ := e88R n m (s := s) (p := i) (a := P 188 i) (d3 := d3) r0 r1 R S rh.2 (by omega) ha rfl (by omega)
    rw [a1, zbN_ok] at hC
    rw [a2] at hR
    exact ⟨M1, P1, a7.wf, a8.wg, .inr ⟨s1, _, c3, hC, hR, a3, a4, by omega, by omega⟩⟩
/-- all parts from i on -/
theorem p86_lp {q : Int} {n m : Nat} {x2 : Int} : ∀ (c : Nat) (M P : zM) (s i : Int) (d4 d3 : zV), zRel q M P → zRn M P → zSt M P s → 0 ≤ i → i + c = P 178 17 → 0 ≤ M 47 5 → M 47 5 ≤ 200000 * i → ∃ M1 P1, zWF M M1 ∧ zWG P P1 ∧ ((∃ v : Int, v ≤ -100 ∧ zex 86 40 [] [(2, 47), (2, 17), (0, x2), (0, i), d4] M (zKs, n, m) = some ((0, v), M1, (zKs, n, m)) ∧ zex 187 55 [] [(2, 178), (0, s), (0, i), d3] P (zKs, n, m) = some ((0, v), P1, (zKs, n, m))) ∨ (zex 86 40 [] [(2, 47), (2, 17), (0, x2), (0, i), d4] M (zKs, n, m) = some ((0, M1 47 5), M1, (zKs, n, m)) ∧ zex 187 55 [] [(2, 178), (0, s), (0, i), d3] P (zKs, n, m) = some ((0, if P1 178 63 = 0 then (if P1 178 64 ≤ P1 178 16 then 0 else -6) else -2), P1, (zKs, n, m)) ∧ zRn M1 P1 ∧ 0 ≤ M1 47 5))
  | 0, M, P, s, i, d4, d3, h, R, S, h0, hc, b0, b1 => by
    obtain ⟨-, -, -, -, -, -, -, ⟨x1, x4, x3⟩, -⟩ := id h
    refine ⟨M, P, zWF.rfl, zWG.rfl, .inr ⟨?_, ?_, R, b0⟩⟩
    · rw [q86_40, zg_pos (zk_47 n m), if_pos (by omega), zg_pos (zk_47 n m)]
    · rw [q187_55, zg_pos (zk_178 n m), if_pos (by omega), zg_pos (zk_178 n m)]
      by_cases e : P 178 63 = 0
      · rw [if_pos e, if_pos e, zg_pos (zk_178 n m), zg_pos (zk_178 n m)]
        by_cases e2 : P 178 64 ≤ P 178 16
        · rw [if_pos e2, if_pos e2, q187_217]
        · rw [if_neg e2, if_neg e2, q187_217]
      · rw [if_neg e, if_neg e, q187_217]
  | c + 1, M, P, s, i, d4, d3, h, R, S, h0, hc, b0, b1 => by
    obtain ⟨-, -, -, -, -, -, -, ⟨x1, x4, x3⟩, -⟩ := id h
    obtain ⟨M1, P1, w1, w2, H⟩ := p86_st h n m (x2 := x2) (d4 := d4) (d3 := d3) R S ⟨h0, by omega⟩ ⟨b0, b1⟩
    rcases H with ⟨a1, a2⟩ | ⟨s1, c4, c3, a1, a2, a3, a4, a5, a6⟩
    · exact ⟨M1, P1, w1, w2, .inl ⟨(-100 : Int) - i, by omega, a1, a2⟩⟩
    · rw [q86_89, zg_pos (by unfold zI; omega)] at a1
      rw [q187_202, zg_pos (by unfold zI; omega)] at a2
      obtain ⟨M2, P2, w3, w4, H2⟩ := p86_lp (q := q) (n := n) (m := m) (x2 := x2) c M1 P1 s1 (i + 1) (0, c4) c3 (h.way w1 w2) a3 a4 (by omega) (by rw [w2 _ _ (by omega)]; omega) a5 a6
      refine ⟨M2, P2, w1.trans w3, w2.trans w4, ?_⟩
      rw [a1, a2]
      exact H2
