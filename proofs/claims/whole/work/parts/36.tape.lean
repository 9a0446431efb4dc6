/-! TAPES: refusals, the rows of one tape, tape -/
theorem zrf1 {q : Int} {M P : zM} (h : zRel q M P) (hq : q ≤ 1000) (n m : Nat) (v : Int) : zex 140 0 [] [(2, 1), (0, v)] M (zKs, n, m) = some ((0, v), zu M 1 9 (P 178 25 + 1), (zKs, n, m)) := by
  obtain ⟨-, -, -, -, -, -, -, -, -, -, -, r1, r2, r3⟩ := h
  rw [q140_0, zg_pos (zk_1 n m), zg_pos (by unfold zI; omega), zg_pos (zk_1 n m), r1]
theorem zrf2 {q : Int} {M P : zM} (h : zRel q M P) (hq : q ≤ 1000) (n m : Nat) (v : Int) : zex 144 0 [] [(2, 178), (0, v)] P (zKs, n, m) = some ((0, v), zu P 178 25 (P 178 25 + 1), (zKs, n, m)) := by
  obtain ⟨-, -, -, -, -, -, -, -, -, -, -, r1, r2, r3⟩ := h
  rw [q144_0, zg_pos (zk_178 n m), zg_pos (by unfold zI; omega), zg_pos (zk_178 n m)]
theorem zRel_ref {q : Int} {M P : zM} (h : zRel q M P) : zRel (q + 1) (zu M 1 9 (P 178 25 + 1)) (zu P 178 25 (P 178 25 + 1)) := by
  obtain ⟨⟨r0, r1⟩, rc, rh, rp, rb, rs, rw0, rx, ro, rk, rt, rr⟩ := id h
  exact ⟨⟨zPC_zu r0 (by decide +kernel), zPR_zu r1 (by decide +kernel)⟩, rc.of (by (intros; first | rfl | (simp (disch := omega) only [zun, zun2, and_self]))) (by (intros; first | rfl | (simp (disch := omega) only [zun, zun2, and_self]))) (by (intros; first | rfl | (simp (disch := omega) only [zun, zun2, and_self]))), (by (simp (disch := omega) only [zun, zun2]; exact rh)), rp.of (by (intros; first | rfl | (simp (disch := omega) only [zun, zun2, and_self]))) (by (intros; first | rfl | (simp (disch := omega) only [zun, zun2, and_self]))) (by (intros; first | rfl | (simp (disch := omega) only [zun, zun2, and_self]))) (by (intros; first | rfl | (simp (disch := omega) only [zun, zun2, and_self]))), rb.of (by (intros; first | rfl | (simp (disch := omega) only [zun, zun2, and_self]))) (by (intros; first | rfl | (simp (disch := omega) only [zun, zun2, and_self]))) (by (intros; first | rfl | (simp (disch := omega) only [zun, zun2, and_self]))), rs.of (by (intros; first | rfl | (simp (disch := omega) only [zun, zun2, and_self]))) (by (intros; first | rfl | (simp (disch := omega) only [zun, zun2, and_self]))) (by (intros; first | rfl | (simp (disch := omega) only [zun, zun2, and_self]))) (by (intros; first | rfl | (simp (disch := omega) only [zun, zun2, and_self]))), rw0.of (by (intros; first | rfl | (simp (disch := omega) only [zun, zun2, and_self]))) (by (intros; first | rfl | (simp (disch := omega) only [zun, zun2, and_self]))) (by (intros; first | rfl | (simp (disch := omega) only [zun, zun2, and_self]))) (by (intros; first | rfl | (simp (disch := omega) only [zun, zun2, and_self]))) (by (intros; first | rfl | (simp (disch := omega) only [zun, zun2, and_self]))) (by (intros; first | rfl | (simp (disch := omega) only [zun, zun2, and_self]))), rx.of (by (intros; first | rfl | (simp (disch := omega) only [zun, zun2, and_self]))) (by (intros; first | rfl | (simp (disch := omega) only [zun, zun2, and_self]))) (by (intros; first | rfl | (simp (disch := omega) only [zun, zun2, and_self]))) (by (intros; first | rfl | (simp (disch := omega) only [zun, zun2, and_self]))), ro.of (by (intros; first | rfl | (simp (disch := omega) only [zun, zun2, and_self]))) (by (intros; first | rfl | (simp (disch := omega) only [zun, zun2, and_self]))) (by (intros; first | rfl | (simp (disch := omega) only [zun, zun2, and_self]))) (by (intros; first | rfl | (simp (disch := omega) only [zun, zun2, and_self]))), rk.of (by (intros; first | rfl | (simp (disch := omega) only [zun, zun2, and_self]))) (by (intros; first | rfl | (simp (disch := omega) only [zun, zun2, and_self]))) (by (intros; first | rfl | (simp (disch := omega) only [zun, zun2, and_self]))) (by (intros; first | rfl | (simp (disch := omega) only [zun, zun2, and_self]))) (by (intros; first | rfl | (simp (disch := omega) only [zun, zun2, and_self]))), rt.of (by (intros; first | rfl | (simp (disch := omega) only [zun, zun2, and_self]))) (by (intros; first | rfl | (simp (disch := omega) only [zun, zun2, and_self]))), by rw [zus, zus], by rw [zus]; omega, by rw [zus]; omega⟩
theorem zOpn_rf {q : Int} {M P : zM} (h : zRel q M P) {n m k k' : Nat} {al al' : List zV} (v : Int) (h1 : zex k 0 [] ((2, 1) :: al) M (zKs, n, m) = some ((0, v), zu M 1 9 (P 178 25 + 1), (zKs, n, m))) (h2 : zex k' 0 [] ((2, 178) :: al') P (zKs, n, m) = some ((0, v), zu P 178 25 (P 178 25 + 1), (zKs, n, m))) : zOpn (q + 1) k k' al al' M P n m :=
  ⟨v, _, _, h1, zCf.rfl.zu (by omega), h2, zRf.rfl.zu (by omega), zRel_ref h⟩
theorem zOpn_same {q : Int} {M P : zM} (h : zRel q M P) {n m k k' : Nat} {al al' : List zV} (v : Int) (h1 : zex k 0 [] ((2, 1) :: al) M (zKs, n, m) = some ((0, v), M, (zKs, n, m))) (h2 : zex k' 0 [] ((2, 178) :: al') P (zKs, n, m) = some ((0, v), P, (zKs, n, m))) : zOpn (q + 1) k k' al al' M P n m :=
  ⟨v, _, _, h1, zCf.rfl, h2, zRf.rfl, h.mono (by omega)⟩
/-- one tape's part of the relation -/
def zRt1 (M P : zM) (d : Int) : Prop := M (76 + 17 * d) 0 = P 201 d ∧ (0 ≤ P 201 d ∧ P 201 d ≤ 5) ∧
  (1 ≤ P 201 d → P 201 d ≤ 4 → M (76 + 17 * d) 1 = P 202 d ∧ (0 ≤ P 202 d ∧ P 202 d ≤ 64) ∧ ∀ i, 0 ≤ i → i < 64 → M (77 + 17 * d) i = P 203 (64 * d + i)) ∧
  (P 201 d = 5 → zRc M (78 + 17 * d) (fun a => P 204 (3 * d + a)) (fun i => P 205 (120 * d + i)) (fun i => P 206 (120 * d + i)) (fun i => P 207 (120 * d + i)) ∧ M (78 + 17 * d) 3 = P 208 d ∧ (1 ≤ P 208 d ∧ P 208 d ≤ 8) ∧ zRp M (78 + 17 * d) (P 209 d) (fun j => P 210 (12 * d + j)) (fun j => P 211 (12 * d + j)))
theorem zRt.at {M P : zM} (h : zRt M P) {d : Int} (hd : 0 ≤ d ∧ d ≤ 5) : zRt1 M P d := h d hd.1 hd.2
/-- whose place it is -/
def zown (r y : Int) : Int := if r = 203 then y / 64 else if r = 204 then y / 3 else if 205 ≤ r ∧ r ≤ 207 then y / 120 else if 210 ≤ r then y / 12 else y
theorem zRt1.of {M M' P P' : zM} {d : Int} (h : zRt1 M P d) (h1 : ∀ r y, 76 + 17 * d ≤ r → r ≤ 92 + 17 * d → M' r y = M r y) (h2 : ∀ r y, 201 ≤ r → r ≤ 211 → zown r y = d → P' r y = P r y) : zRt1 M' P' d := by
  have a1 := h2 201 d (by omega) (by omega) rfl
  have a2 := h2 202 d (by omega) (by omega) rfl
  have a8 := h2 208 d (by omega) (by omega) rfl
  have a9 := h2 209 d (by omega) (by omega) rfl
  obtain ⟨g1, g2, g3, g4⟩ := h
  unfold zRt1
  rw [h1 _ _ (by omega) (by omega), h1 _ _ (by omega) (by omega), h1 _ _ (by omega) (by omega), a1, a2, a8, a9]
  refine ⟨g1, g2, fun a b => ?_, fun a => ?_⟩
  · obtain ⟨f1, f2, f3⟩ := g3 a b
    exact ⟨f1, f2, fun i hi hj => by rw [h1 _ _ (by omega) (by omega), h2 203 _ (by omega) (by omega) (by unfold zown; rw [if_pos rfl]; omega)]; exact f3 i hi hj⟩
  · obtain ⟨f1, f2, f3, f4⟩ := g4 a
    exact ⟨f1.of (fun r y hr hr' => h1 r y (by omega) (by omega)) (fun b c e => h2 204 _ (by omega) (by omega) (by unfold zown; rw [if_neg (by omega), if_pos rfl]; omega)) (fun i c e => ⟨h2 205 _ (by omega) (by omega) (by unfold zown; rw [if_neg (by omega), if_neg (by omega), if_pos (by omega)]; omega), h2 206 _ (by omega) (by omega) (by unfold zown; rw [if_neg (by omega), if_neg (by omega), if_pos (by omega)]; omega), h2 207 _ (by omega) (by omega) (by unfold zown; rw [if_neg (by omega), if_neg (by omega), if_pos (by omega)]; omega)⟩), f2, f3, f4.of (h1 _ _ (by omega) (by omega)) (fun y => h1 _ _ (by omega) (by omega)) rfl (fun j c e => ⟨h2 210 _ (by omega) (by omega) (by unfold zown; rw [if_neg (by omega), if_neg (by omega), if_neg (by omega), if_pos (by omega)]; omega), h2 211 _ (by omega) (by omega) (by unfold zown; rw [if_neg (by omega), if_neg (by omega), if_neg (by omega), if_pos (by omega)]; omega)⟩)⟩
/-- a change of one tape -/
theorem zRt.upd {M M' P P' : zM} (h : zRt M P) {d : Int} (h1 : ∀ r y, 76 ≤ r → r ≤ 177 → (r < 76 + 17 * d ∨ 92 + 17 * d < r) → M' r y = M r y) (h2 : ∀ r y, 201 ≤ r → r ≤ 211 → zown r y ≠ d → P' r y = P r y) (hd : zRt1 M' P' d) : zRt M' P' := fun e h0 h5 => by
  by_cases he : e = d
  · subst he
    exact hd
  · exact (h.at ⟨h0, h5⟩).of (fun r y a b => h1 r y (by omega) (by omega) (by omega)) (fun r y a b c => h2 r y a b (by omega))
/-- an array filled from a on -/
def zflo (M : zM) (r a n v : Int) : zM := fun x y => if x = r ∧ a ≤ y ∧ y < a + n then v else M x y
theorem zflo_0 {M : zM} {r a v : Int} : zflo M r a 0 v = M := by
  funext x y
  unfold zflo
  rw [if_neg (by omega)]
theorem zflo_s {M : zM} {r a v n : Int} (h : 0 ≤ n) : zu (zflo M r a n v) r (a + n) v = zflo M r a (n + 1) v := by
  funext x y
  unfold zflo
  rw [zu_at]
  by_cases h1 : x = r ∧ y = a + n
  · rw [if_pos h1, if_pos (by omega)]
  · rw [if_neg h1]
    by_cases h2 : x = r ∧ a ≤ y ∧ y < a + n
    · rw [if_pos h2, if_pos (by omega)]
    · rw [if_neg h2, if_neg (by omega)]
theorem zflo_r {M : zM} {r a n v x y : Int} (h : x ≠ r) : zflo M r a n v x y = M x y := by
  unfold zflo
  rw [if_neg (fun c => h c.1)]
theorem zflo_in {M : zM} {r a n v y : Int} (h : a ≤ y ∧ y < a + n) : zflo M r a n v r y = v := by
  unfold zflo
  rw [if_pos ⟨rfl, h⟩]
theorem zflo_out {M : zM} {r a n v x y : Int} (h : y < a ∨ a + n ≤ y) : zflo M r a n v x y = M x y := by
  unfold zflo
  rw [if_neg (by omega)]
theorem e208_l {P : zM} {n m : Nat} {d s k : Int} (r1 : zPR P) (hd : 0 ≤ d ∧ d ≤ 5) : ∀ (q : Nat) (i : Int), 0 ≤ i → i + q = 64 → zex 208 31 [] [(2, 178), (0, d), (0, s), (0, k), (0, i)] (zflo P 203 (64 * d) i 0) (zKs, n, m) = some ((0, k), zflo P 203 (64 * d) 64 0, (zKs, n, m))
  | 0, i, h0, h1 => by
    rw [q208_31, if_pos (by omega), show i = 64 by omega]
  | q + 1, i, h0, h1 => by
    rw [← e208_l (n := n) (m := m) (s := s) r1 hd q (i + 1) (by omega) (by omega), q208_31]
    simp (disch := omega) only [q208_43, zk_178, zk_203, zflo_r, zp_178_39 r1, zflo_s, zg_pos, if_neg, zI, ↓reduceIte, Int.reduceEq, Int.reduceLE, Int.reduceLT, Int.reduceAdd, Int.reduceSub, Int.reduceMul, Int.reduceNeg, zg_T, zbI_ok, zbL_ok, zbN_ok, zite1, zite2, zite3, zem, Int.cast_ofNat_Int, and_self, and_true, true_and, or_true, true_or, or_self, ite_not, if_true, if_false, not_true_eq_false, not_false_eq_true]
theorem zrp76 {M : zM} (h : zPC M) {d : Int} (hd : 0 ≤ d ∧ d ≤ 5) : M (76 + 17 * d) 2 = 77 + 17 * d ∧ M (76 + 17 * d) 3 = 78 + 17 * d := by
  rcases (by omega : d = 0 ∨ d = 1 ∨ d = 2 ∨ d = 3 ∨ d = 4 ∨ d = 5) with rfl | rfl | rfl | rfl | rfl | rfl
  · exact ⟨zp_76_2 h, zp_76_3 h⟩
  · exact ⟨zp_93_2 h, zp_93_3 h⟩
  · exact ⟨zp_110_2 h, zp_110_3 h⟩
  · exact ⟨zp_127_2 h, zp_127_3 h⟩
  · exact ⟨zp_144_2 h, zp_144_3 h⟩
  · exact ⟨zp_161_2 h, zp_161_3 h⟩
theorem o_tape {q : Int} {M P : zM} (h : zRel q M P) (hq : q ≤ 1000) (n m : Nat) (d s k : Int) : zOpn (q + 1) 123 208 [(0, d), (0, s), (0, k)] [(0, d), (0, s), (0, k), (9, 0)] M P n m := by
  obtain ⟨⟨r0, r1⟩, rc, rh, rp, rb, rs, rw0, rx, ro, rk, rt, rr⟩ := id h
  by_cases hd : 0 ≤ d ∧ d ≤ 5
  · by_cases hs : 1 ≤ s ∧ s ≤ 4
    · by_cases hk : k ≤ 64
      · by_cases hk0 : 0 ≤ k
        · have r2 : zPR (zu (zu P 201 d s) 202 d k) := zPR_zu (zPR_zu r1 (zPR_row (by decide +kernel))) (zPR_row (by decide +kernel))
          have c1 := e76 (M := M) (s := s) (n := k) (zrk75 n m hd).1 (by rw [show 76 + 17 * d + 1 = 77 + 17 * d by omega]; exact (zrk75 n m hd).2) (by rw [show 76 + 17 * d + 1 = 77 + 17 * d by omega]; exact (zrp76 r0 hd).1) (by omega)
          rw [show 76 + 17 * d + 1 = 77 + 17 * d by omega] at c1
          have c2 := e208_l (n := n) (m := m) (s := s) (k := k) r2 hd 64 0 (by omega) (by omega)
          rw [zflo_0] at c2
          generalize hM1 : zfl (zu (zu M (76 + 17 * d) 0 s) (76 + 17 * d) 1 k) (77 + 17 * d) 64 0 = M1
          generalize hP1 : zflo (zu (zu P 201 d s) 202 d k) 203 (64 * d) 64 0 = P1
          have u1 : ∀ r y, (r < 76 + 17 * d ∨ 77 + 17 * d < r ∨ (r = 76 + 17 * d ∧ 1 < y)) → M1 r y = M r y := fun r y hr => by
            rw [← hM1, zfl_r (by omega)]
            by_cases e : r = 76 + 17 * d
            · rw [zun2 (by omega), zun2 (by omega)]
            · rw [zun e, zun e]
          have u2 : ∀ r y, (r < 201 ∨ 203 < r ∨ zown r y ≠ d) → P1 r y = P r y := fun r y hr => by
            rw [← hP1]
            by_cases e3 : r = 203
            · subst e3
              have : y < 64 * d ∨ 64 * d + 64 ≤ y := by
                have : zown 203 y = y / 64 := if_pos rfl
                omega
              rw [zflo_out this, zun (by omega), zun (by omega)]
            · rw [zflo_r e3]
              by_cases e1 : r = 201
              · subst e1
                have : zown 201 y = y := rfl
                rw [zun (by omega), zun2 (by omega)]
              · by_cases e2 : r = 202
                · subst e2
                  have : zown 202 y = y := rfl
                  rw [zun2 (by omega), zun (by omega)]
                · rw [zun e2, zun e1]
          have t1 : zRt1 M1 P1 d := by
            have a1 : P1 201 d = s := by rw [← hP1, zflo_r (by omega), zun (by omega), zus]
            have a2 : P1 202 d = k := by rw [← hP1, zflo_r (by omega), zus]
            unfold zRt1
            rw [a1, a2]
            refine ⟨by rw [← hM1, zfl_r (by omega), zun2 (by omega), zus], by omega, fun _ _ => ⟨by rw [← hM1, zfl_r (by omega), zus], by omega, fun i hi hj => ?_⟩, fun e => by omega⟩
            rw [← hM1, ← hP1, zfl_in (by omega), zflo_in (by omega)]
          refine ⟨k, M1, P1, ?_, fun r y hr => u1 r y (by omega), ?_, fun r y hr => u2 r y (by omega), ⟨zPC_t (fun r y => decide (76 ≤ r ∧ r ≤ 177) && (decide ((r - 76) % 17 = 0 ∧ y ≤ 1) || decide ((r - 76) % 17 = 1))) (by decide +kernel) r0 (fun r y hr => u1 r y (by simp at hr; omega)), zPR_t (fun r y => decide (201 ≤ r ∧ r ≤ 203)) (by decide +kernel) r1 (fun r y hr => u2 r y (by simp at hr; omega))⟩, rc.of (by (intros; first | rfl | (simp (disch := omega) only [u1, u2, and_self]))) (by (intros; first | rfl | (simp (disch := omega) only [u1, u2, and_self]))) (by (intros; first | rfl | (simp (disch := omega) only [u1, u2, and_self]))), (by (simp (disch := omega) only [u1, u2]; exact rh)), rp.of (by (intros; first | rfl | (simp (disch := omega) only [u1, u2, and_self]))) (by (intros; first | rfl | (simp (disch := omega) only [u1, u2, and_self]))) (by (intros; first | rfl | (simp (disch := omega) only [u1, u2, and_self]))) (by (intros; first | rfl | (simp (disch := omega) only [u1, u2, and_self]))), rb.of (by (intros; first | rfl | (simp (disch := omega) only [u1, u2, and_self]))) (by (intros; first | rfl | (simp (disch := omega) only [u1, u2, and_self]))) (by (intros; first | rfl | (simp (disch := omega) only [u1, u2, and_self]))), rs.of (by (intros; first | rfl | (simp (disch := omega) only [u1, u2, and_self]))) (by (intros; first | rfl | (simp (disch := omega) only [u1, u2, and_self]))) (by (intros; first | rfl | (simp (disch := omega) only [u1, u2, and_self]))) (by (intros; first | rfl | (simp (disch := omega) only [u1, u2, and_self]))), rw0.of (by (intros; first | rfl | (simp (disch := omega) only [u1, u2, and_self]))) (by (intros; first | rfl | (simp (disch := omega) only [u1, u2, and_self]))) (by (intros; first | rfl | (simp (disch := omega) only [u1, u2, and_self]))) (by (intros; first | rfl | (simp (disch := omega) only [u1, u2, and_self]))) (by (intros; first | rfl | (simp (disch := omega) only [u1, u2, and_self]))) (by (intros; first | rfl | (simp (disch := omega) only [u1, u2, and_self]))), rx.of (by (intros; first | rfl | (simp (disch := omega) only [u1, u2, and_self]))) (by (intros; first | rfl | (simp (disch := omega) only [u1, u2, and_self]))) (by (intros; first | rfl | (simp (disch := omega) only [u1, u2, and_self]))) (by (intros; first | rfl | (simp (disch := omega) only [u1, u2, and_self]))), ro.of (by (intros; first | rfl | (simp (disch := omega) only [u1, u2, and_self]))) (by (intros; first | rfl | (simp (disch := omega) only [u1, u2, and_self]))) (by (intros; first | rfl | (simp (disch := omega) only [u1, u2, and_self]))) (by (intros; first | rfl | (simp (disch := omega) only [u1, u2, and_self]))), rk.of (by (intros; first | rfl | (simp (disch := omega) only [u1, u2, and_self]))) (by (intros; first | rfl | (simp (disch := omega) only [u1, u2, and_self]))) (by (intros; first | rfl | (simp (disch := omega) only [u1, u2, and_self]))) (by (intros; first | rfl | (simp (disch := omega) only [u1, u2, and_self]))) (by (intros; first | rfl | (simp (disch := omega) only [u1, u2, and_self]))), rt.upd (d := d) (fun r y a b c => u1 r y (by omega)) (fun r y a b c => u2 r y (by omega)) t1, by rw [u1 _ _ (by omega), u2 _ _ (by omega)]; exact rr.1, by rw [u2 _ _ (by omega)]; omega, by rw [u2 _ _ (by omega)]; omega⟩
          · rw [← hM1]
            simp (disch := omega) only [q123_0, e136, e133, hd, hs, hk, hk0, zk_1, zk_75, zp_1_8 r0, zrp75 r0 hd, (zrk75 n m hd).1, c1, zg_pos, ↓reduceIte, Int.reduceEq, Int.reduceLE, Int.reduceLT, Int.reduceAdd, Int.reduceSub, Int.reduceMul, Int.reduceNeg, zg_T, zbI_ok, zbL_ok, zbN_ok, zite1, zite2, zite3, zem, Int.cast_ofNat_Int, and_self, and_true, true_and, or_true, true_or, or_self, ite_not, if_true, if_false, not_true_eq_false, not_false_eq_true]
          · rw [← hP1]
            simp (disch := omega) only [q208_0, q208_24, q208_29, e207, e143, hd, hs, hk, hk0, zk_178, zk_201, zk_202, zp_178_37 r1, zp_178_38 r1, zun, c2, zg_pos, ↓reduceIte, Int.reduceEq, Int.reduceLE, Int.reduceLT, Int.reduceAdd, Int.reduceSub, Int.reduceMul, Int.reduceNeg, zg_T, zbI_ok, zbL_ok, zbN_ok, zite1, zite2, zite3, zem, Int.cast_ofNat_Int, and_self, and_true, true_and, or_true, true_or, or_self, ite_not, if_true, if_false, not_true_eq_false, not_false_eq_true]
        · refine zOpn_rf h (-14) ?_ ?_
          · simp only [q123_0, e136, e133, hd, hs, hk, hk0, zk_1, zrf1 h hq, ↓reduceIte, Int.reduceEq, Int.reduceLE, Int.reduceLT, Int.reduceAdd, Int.reduceSub, Int.reduceMul, Int.reduceNeg, zg_T, zbI_ok, zbL_ok, zbN_ok, zite1, zite2, zite3, zem, Int.cast_ofNat_Int, and_self, and_true, true_and, or_true, true_or, or_self, ite_not, if_true, if_false, not_true_eq_false, not_false_eq_true]
          · simp only [q208_0, e207, e143, hd, hs, hk, hk0, zk_178, zrf2 h hq, ↓reduceIte, Int.reduceEq, Int.reduceLE, Int.reduceLT, Int.reduceAdd, Int.reduceSub, Int.reduceMul, Int.reduceNeg, zg_T, zbI_ok, zbL_ok, zbN_ok, zite1, zite2, zite3, zem, Int.cast_ofNat_Int, and_self, and_true, true_and, or_true, true_or, or_self, ite_not, if_true, if_false, not_true_eq_false, not_false_eq_true]
      · refine zOpn_same h (-1) ?_ ?_
        · simp only [q123_0, q123_11, e136, e133, hd, hs, hk, ↓reduceIte, Int.reduceEq, Int.reduceLE, Int.reduceLT, Int.reduceAdd, Int.reduceSub, Int.reduceMul, Int.reduceNeg, zg_T, zbI_ok, zbL_ok, zbN_ok, zite1, zite2, zite3, zem, Int.cast_ofNat_Int, and_self, and_true, true_and, or_true, true_or, or_self, ite_not, if_true, if_false, not_true_eq_false, not_false_eq_true]
        · simp only [q208_0, q208_11, e207, e143, hd, hs, hk, ↓reduceIte, Int.reduceEq, Int.reduceLE, Int.reduceLT, Int.reduceAdd, Int.reduceSub, Int.reduceMul, Int.reduceNeg, zg_T, zbI_ok, zbL_ok, zbN_ok, zite1, zite2, zite3, zem, Int.cast_ofNat_Int, and_self, and_true, true_and, or_true, true_or, or_self, ite_not, if_true, if_false, not_true_eq_false, not_false_eq_true]
    · refine zOpn_same h (-1) ?_ ?_
      · simp only [q123_0, q123_11, e136, e133, hd, hs, ↓reduceIte, Int.reduceEq, Int.reduceLE, Int.reduceLT, Int.reduceAdd, Int.reduceSub, Int.reduceMul, Int.reduceNeg, zg_T, zbI_ok, zbL_ok, zbN_ok, zite1, zite2, zite3, zem, Int.cast_ofNat_Int, and_self, and_true, true_and, or_true, true_or, or_self, ite_not, if_true, if_false, not_true_eq_false, not_false_eq_true]
      · simp only [q208_0, q208_11, e207, e143, hd, hs, ↓reduceIte, Int.reduceEq, Int.reduceLE, Int.reduceLT, Int.reduceAdd, Int.reduceSub, Int.reduceMul, Int.reduceNeg, zg_T, zbI_ok, zbL_ok, zbN_ok, zite1, zite2, zite3, zem, Int.cast_ofNat_Int, and_self, and_true, true_and, or_true, true_or, or_self, ite_not, if_true, if_false, not_true_eq_false, not_false_eq_true]
  · refine zOpn_same h (-1) ?_ ?_
    · simp only [q123_0, q123_11, e136, hd, ↓reduceIte, Int.reduceEq, Int.reduceLE, Int.reduceLT, Int.reduceAdd, Int.reduceSub, Int.reduceMul, Int.reduceNeg, zg_T, zbI_ok, zbL_ok, zbN_ok, zite1, zite2, zite3, zem, Int.cast_ofNat_Int, and_self, and_true, true_and, or_true, true_or, or_self, ite_not, if_true, if_false, not_true_eq_false, not_false_eq_true]
    · simp only [q208_0, q208_11, e207, hd, ↓reduceIte, Int.reduceEq, Int.reduceLE, Int.reduceLT, Int.reduceAdd, Int.reduceSub, Int.reduceMul, Int.reduceNeg, zg_T, zbI_ok, zbL_ok, zbN_ok, zite1, zite2, zite3, zem, Int.cast_ofNat_Int, and_self, and_true, true_and, or_true, true_or, or_self, ite_not, if_true, if_false, not_true_eq_false, not_false_eq_true]
