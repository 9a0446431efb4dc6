/-! SHOW: both sides, a unit -/
def zShR (M0 P0 M P : zM) (σ : zS) (k : Int → Int) (w : zW) (u N X : Int) : Prop := zFj M0 M ∧ zFh P0 P ∧ zSC M (P0 179) (P0 181) k σ ∧ zSR P k σ ∧ zSk (P0 179) (P0 181) (P0 178 5) u σ ∧ (M 27 6 = u ∧ P 178 57 = u ∧ 0 ≤ u ∧ u ≤ 4000) ∧ zNt M P N ∧ zWC M w ∧ zWR P w ∧ (0 ≤ w.1 ∧ w.1 ≤ 3 * u) ∧ M 36 7 = X ∧ 0 ≤ X ∧ X ≤ u
theorem e167 {P : zM} {n m : Nat} {x y : Int} {d d' : zV} (r1 : zPR P) (h1 : P 178 52 = x ∧ P 178 53 = y) (hx : zI x) (hy : zI y) : zex 167 0 [] [(2, 178), d, d'] P (zKs, n, m) = some ((0, if (0 ≤ x / 1000 ∧ x / 1000 ≤ 31) ∧ (0 ≤ y / 1000 ∧ y / 1000 ≤ 31) ∧ P 185 (y / 1000 * 32 + x / 1000) = 0 then 0 else 1), P, (zKs, n, m)) := by
  have a1 := e166 x (9, 0) P (zKs, n, m) hx
  have a2 := e166 y (9, 0) P (zKs, n, m) hy
  have a3 := e153 (x / 1000) (y / 1000) P (zKs, n, m)
  by_cases hf : (0 ≤ x / 1000 ∧ x / 1000 ≤ 31) ∧ 0 ≤ y / 1000 ∧ y / 1000 ≤ 31
  · obtain ⟨f1, f2⟩ := hf
    have e1 : 32 * (y / 1000) + x / 1000 = y / 1000 * 32 + x / 1000 := by omega
    rw [if_pos ⟨f1, f2⟩] at a3
    by_cases e : P 185 (y / 1000 * 32 + x / 1000) = 0
    · rw [if_pos ⟨f1, f2, e⟩]
      simp (disch := omega) only [q167_0, q167_24, h1, a1, a2, a3, e1, e, zk_178, zk_185, zp_178_9 r1, zg_pos, zI, ↓reduceIte, Int.reduceEq, Int.reduceLE, Int.reduceLT, Int.reduceAdd, Int.reduceSub, Int.reduceMul, Int.reduceNeg, zg_T, zbI_ok, zbL_ok, zbN_ok, zite1, zite2, zite3, zem, Int.cast_ofNat_Int, and_self, and_true, true_and, or_true, true_or, or_self, ite_not, if_true, if_false, not_true_eq_false, not_false_eq_true]
    · rw [if_neg (fun c => e c.2.2)]
      simp (disch := omega) only [q167_0, q167_21, q167_24, h1, a1, a2, a3, e1, e, zk_178, zk_185, zp_178_9 r1, zg_pos, zI, ↓reduceIte, Int.reduceEq, Int.reduceLE, Int.reduceLT, Int.reduceAdd, Int.reduceSub, Int.reduceMul, Int.reduceNeg, zg_T, zbI_ok, zbL_ok, zbN_ok, zite1, zite2, zite3, zem, Int.cast_ofNat_Int, and_self, and_true, true_and, or_true, true_or, or_self, ite_not, if_true, if_false, not_true_eq_false, not_false_eq_true]
  · rw [if_neg hf] at a3
    rw [if_neg (fun c => hf ⟨c.1, c.2.1⟩)]
    simp (disch := omega) only [q167_0, q167_21, q167_24, h1, a1, a2, a3, zk_178, zg_pos, zI, ↓reduceIte, Int.reduceEq, Int.reduceLE, Int.reduceLT, Int.reduceAdd, Int.reduceSub, Int.reduceMul, Int.reduceNeg, zg_T, zbI_ok, zbL_ok, zbN_ok, zite1, zite2, zite3, zem, Int.cast_ofNat_Int, and_self, and_true, true_and, or_true, true_or, or_self, ite_not, if_true, if_false, not_true_eq_false, not_false_eq_true]
theorem sh_step {q : Int} {M0 P0 M P : zM} {n m : Nat} {σ : zS} {k : Int → Int} {w : zW} {u N X hs x1 x3 x4 : Int} (h : zRel q M0 P0) (R : zShR M0 P0 M P σ k w u N X) (hu : u < 4000) (hh : hs = 0 ∨ hs = 1) (hx : 0 ≤ x4 ∧ x4 ≤ 100) : ∃ M' P' σ' k' w' N' X', zex 71 0 [] [(2, 36), (2, 27), (2, 18), (0, hs), (9, 0)] M (zKs, n, m) = some ((9, 0), M', (zKs, n, m)) ∧ zex 169 54 [(0, hs), (2, 178)] [(2, 178), (0, x1), (0, X), (0, x3), (0, x4)] P (zKs, n, m) = zex 169 38 [] [(2, 178), (0, x1), (0, X'), (0, x3), (0, x4 + 1)] P' (zKs, n, m) ∧ zShR M0 P0 M' P' σ' k' w' (u + 1) N' X' ∧ M' 36 2 = M 36 2 := by
  obtain ⟨⟨r0, r1⟩, rc, rh, rp, rb, rs, rw0, rx, ro, rk, rt, rr⟩ := id h
  obtain ⟨f0, f1, sc, sr, ok, ⟨u1, u2, u3, u4⟩, nt, wc, wr, wb, ⟨xx, xx2, xx3⟩⟩ := R
  obtain ⟨U, M1, ⟨hU1, hU2⟩, m1, m2, m3, m4, m5, m6⟩ := e65 (n := n) (m := m) (most := 1) (f0.pc r0) (f0.cc h.cc) h.ct (by rw [f0 _ _ (by omega)]; exact rh.1) sc ok (by omega) (by omega) (by omega)
  have hU : U = 1 := by omega
  subst hU
  have m2' : zSC M1 (P0 179) (P0 181) k (zsp (P0 179) k (P0 181) (P0 178 5) σ) := m2
  rw [u1] at m3
  have F1 := f0.trans m6.j
  obtain ⟨P1, p1, p2, p3, p4, p5, p6⟩ := e164 (n := n) (m := m) (hs := hs) (f1.pr r1) (f1.cr h.cr) h.ct (by rw [f1 _ _ (by omega)]) sr ok (by omega) wr (.inr (by omega)) (by omega)
  rw [u2] at p2 p3 p4
  have G1 := f1.trans p6.h
  have ok1 := zSk_s (k := k) h.ct ok
  obtain ⟨⟨⟨y0, y1, y2, y3⟩, y4⟩, ym⟩ := m2'
  obtain ⟨⟨z0, z1, z2, z3, z4⟩, zm, zk⟩ := p2
  obtain ⟨⟨b1, b2, b3, b4⟩, b5, b6⟩ := id ok1
  obtain ⟨n1, n2, n3⟩ := id nt
  have ht : ∀ r y, 193 ≤ r → r ≤ 197 → P1 r y = P r y := fun r y h1 h2 => p6 _ _ (by omega)
  obtain ⟨M2, P2, N', s1, s2, s3, s4, s5⟩ := sh_note (n := n) (m := m) (d := (9, 0)) (d' := (9, 0)) (F1.pc r0) (G1.pr r1) (rp.of (F1 _ _ (by omega)) (fun y => F1 _ _ (by omega)) (G1 _ _ (by omega)) (fun j _ _ => ⟨G1 183 j (by omega), G1 184 j (by omega)⟩)) ⟨⟨by rw [m6 _ _ (by omega)]; exact n1.1, by rw [p6 _ _ (by omega)]; exact n1.2⟩, n2, fun i i0 i1 => by rw [m6 _ _ (by omega), m6 _ _ (by omega), m6 _ _ (by omega), m6 _ _ (by omega), ht _ _ (by omega) (by omega), ht _ _ (by omega) (by omega), ht _ _ (by omega) (by omega), ht _ _ (by omega) (by omega)]; exact n3 i i0 i1⟩ ⟨m3, m4, y0, y1, y4⟩ ⟨p4, p5, z0, z1, z4⟩ (by unfold zI; omega) (by unfold zI; omega)
  have F2 : zFj M0 M2 := F1.trans (fun r y hr => s4 r y (by omega))
  have G2 : zFh P0 P2 := G1.trans (fun r y hr => s5 r y (by omega))
  have r2 := F2.pc r0
  have a1 := e53 (M := M2) (zk_28 n m) (by rw [s4 _ _ (by omega), y0]; unfold zI; omega)
  have a2 := e54 (M := M2) (zk_28 n m) (by rw [s4 _ _ (by omega), y1]; unfold zI; omega)
  rw [s4 _ _ (by omega), y0] at a1
  rw [s4 _ _ (by omega), y1] at a2
  have a3 := e36 (n := n) (m := m) (x := (zsp (P0 179) k (P0 181) (P0 178 5) σ).1.1 / 1000) (y := (zsp (P0 179) k (P0 181) (P0 178 5) σ).1.2.1 / 1000) r2
  have a4 := e167 (P := P2) (n := n) (m := m) (d := (9, 0)) (d' := (9, 0)) (x := (zsp (P0 179) k (P0 181) (P0 178 5) σ).1.1) (y := (zsp (P0 179) k (P0 181) (P0 178 5) σ).1.2.1) (G2.pr r1) ⟨by rw [s5 _ _ (by omega), z0], by rw [s5 _ _ (by omega), z1]⟩ (by unfold zI; omega) (by unfold zI; omega)
  generalize hx0 : (zsp (P0 179) k (P0 181) (P0 178 5) σ).1.1 / 1000 = cx at a1 a3 a4
  generalize hy0 : (zsp (P0 179) k (P0 181) (P0 178 5) σ).1.2.1 / 1000 = cy at a2 a3 a4
  have hfr : ((0 ≤ cx ∧ cx ≤ 31) ∧ (0 ≤ cy ∧ cy ≤ 31) ∧ M2 19 (cy * 32 + cx) = 0) ↔ ((0 ≤ cx ∧ cx ≤ 31) ∧ (0 ≤ cy ∧ cy ≤ 31) ∧ P2 185 (cy * 32 + cx) = 0) := by
    constructor
    · rintro ⟨i1, i2, i3⟩
      refine ⟨i1, i2, ?_⟩
      rw [G2 _ _ (by omega), ← (rb.1 (cy * 32 + cx) (by omega) (by omega)).1, ← F2 _ _ (by omega), i3]
    · rintro ⟨i1, i2, i3⟩
      refine ⟨i1, i2, ?_⟩
      rw [F2 _ _ (by omega), (rb.1 (cy * 32 + cx) (by omega) (by omega)).1, ← G2 185 _ (by omega), i3]
  have hX2 : M2 36 7 = X := by rw [s4 _ _ (by omega), m6 _ _ (by omega), xx]
  -- up to the slips
  have st : ∃ M3 X', zex 71 0 [] [(2, 36), (2, 27), (2, 18), (0, hs), (9, 0)] M (zKs, n, m) = zex 71 23 [] [(2, 36), (2, 27), (2, 18), (0, hs), (0, 0)] M3 (zKs, n, m) ∧ zex 169 54 [(0, hs), (2, 178)] [(2, 178), (0, x1), (0, X), (0, x3), (0, x4)] P (zKs, n, m) = zex 169 38 [] [(2, 178), (0, x1), (0, X'), (0, x3), (0, x4 + 1)] P2 (zKs, n, m) ∧ (M3 36 7 = X' ∧ 0 ≤ X' ∧ X' ≤ u + 1) ∧ ∀ r y, (r ≠ 36 ∨ y ≠ 7) → M3 r y = M2 r y := by
    by_cases fr : (0 ≤ cx ∧ cx ≤ 31) ∧ (0 ≤ cy ∧ cy ≤ 31) ∧ M2 19 (cy * 32 + cx) = 0
    · rw [if_pos fr] at a3
      rw [if_pos (hfr.mp fr)] at a4
      refine ⟨M2, X, ?_, ?_, ⟨hX2, by omega⟩, fun _ _ _ => rfl⟩
      · simp (disch := omega) only [q71_0, q71_21, m1, s1, a1, a2, a3, zk_11, zk_27, zk_28, zk_18, zk_36, zp_27_2 r2, zg_pos, ↓reduceIte, Int.reduceEq, Int.reduceLE, Int.reduceLT, Int.reduceAdd, Int.reduceSub, Int.reduceMul, Int.reduceNeg, zg_T, zbI_ok, zbL_ok, zbN_ok, zite1, zite2, zite3, zem, Int.cast_ofNat_Int, and_self, and_true, true_and, or_true, true_or, or_self, ite_not, if_true, if_false, not_true_eq_false, not_false_eq_true]
      · simp (disch := omega) only [q169_54, q169_64, p1, s2, a4, zk_178, Int.add_zero, zg_pos, zI, ↓reduceIte, Int.reduceEq, Int.reduceLE, Int.reduceLT, Int.reduceAdd, Int.reduceSub, Int.reduceMul, Int.reduceNeg, zg_T, zbI_ok, zbL_ok, zbN_ok, zite1, zite2, zite3, zem, Int.cast_ofNat_Int, and_self, and_true, true_and, or_true, true_or, or_self, ite_not, if_true, if_false, not_true_eq_false, not_false_eq_true]
    · rw [if_neg fr] at a3
      rw [if_neg (fun x => fr (hfr.mpr x))] at a4
      refine ⟨zu M2 36 7 (X + 1), X + 1, ?_, ?_, ⟨zus, by omega⟩, fun r y hr => ?_⟩
      · simp (disch := omega) only [q71_0, q71_21, m1, s1, a1, a2, a3, hX2, zk_11, zk_27, zk_28, zk_18, zk_36, zp_27_2 r2, zg_pos, zI, ↓reduceIte, Int.reduceEq, Int.reduceLE, Int.reduceLT, Int.reduceAdd, Int.reduceSub, Int.reduceMul, Int.reduceNeg, zg_T, zbI_ok, zbL_ok, zbN_ok, zite1, zite2, zite3, zem, Int.cast_ofNat_Int, and_self, and_true, true_and, or_true, true_or, or_self, ite_not, if_true, if_false, not_true_eq_false, not_false_eq_true]
      · simp (disch := omega) only [q169_54, q169_64, p1, s2, a4, zk_178, zg_pos, zI, ↓reduceIte, Int.reduceEq, Int.reduceLE, Int.reduceLT, Int.reduceAdd, Int.reduceSub, Int.reduceMul, Int.reduceNeg, zg_T, zbI_ok, zbL_ok, zbN_ok, zite1, zite2, zite3, zem, Int.cast_ofNat_Int, and_self, and_true, true_and, or_true, true_or, or_self, ite_not, if_true, if_false, not_true_eq_false, not_false_eq_true]
      · by_cases e : r = 36
        · exact zun2 (by omega)
        · exact zun e
  obtain ⟨M3, X', t1, t2, t3, t4⟩ := st
  have F3 : zFj M0 M3 := F2.trans (fun r y hr => t4 r y (by omega))
  have nt3 : zNt M3 P2 N' := by
    obtain ⟨i1, i2, i3⟩ := s3
    exact ⟨⟨by rw [t4 _ _ (by omega)]; exact i1.1, i1.2⟩, i2, fun i j0 j1 => by rw [t4 _ _ (by omega), t4 _ _ (by omega), t4 _ _ (by omega), t4 _ _ (by omega)]; exact i3 i j0 j1⟩
  have K3 : zKK M3 (P0 179) k := fun a g0 g2 i i0 i1 => by
    rw [t4 _ _ (by omega), s4 _ _ (by omega)]
    exact (ym a g0 g2).2.2 i i0 i1
  have W3 : zWC M3 w := wc.of (by rw [t4 _ _ (by omega), s4 _ _ (by omega), m6 _ _ (by omega)]) (fun r y _ _ => by rw [t4 _ _ (by omega), s4 _ _ (by omega), m6 _ _ (by omega)])
  have WR2 : ∀ w', zWR P1 w' → zWR P2 w' := fun w' hw => hw.of (s5 _ _ (by omega)) (fun r y _ _ => s5 _ _ (by omega))
  have o3 : ∀ r y, ((27 < r ∧ r < 30) ∨ (32 < r ∧ r < 36) ∨ (r = 27) ∨ (r = 36 ∧ y = 2)) → M3 r y = M1 r y := fun r y hr => by rw [t4 _ _ (by omega), s4 _ _ (by omega)]
  -- the end, from what the slips leave
  have fin : ∀ M4 k' w', zex 71 23 [] [(2, 36), (2, 27), (2, 18), (0, hs), (0, 0)] M3 (zKs, n, m) = some ((9, 0), M4, (zKs, n, m)) → zkw3 (P0 179) (P0 181) (P0 182) σ.2.2.1 σ.2.2.2 hs (u + 1) (k, w) = (k', w') → zKK M4 (P0 179) k' → zWC M4 w' → (0 ≤ w'.1 ∧ w'.1 ≤ 3 * (u + 1)) → (∀ r y, ((r < 30 ∨ 32 < r) ∧ (r < 44 ∨ 46 < r) ∧ (r ≠ 36 ∨ y ≠ 6)) → M4 r y = M3 r y) → ∃ M' P' σ' k' w' N' X', zex 71 0 [] [(2, 36), (2, 27), (2, 18), (0, hs), (9, 0)] M (zKs, n, m) = some ((9, 0), M', (zKs, n, m)) ∧ zex 169 54 [(0, hs), (2, 178)] [(2, 178), (0, x1), (0, X), (0, x3), (0, x4)] P (zKs, n, m) = zex 169 38 [] [(2, 178), (0, x1), (0, X'), (0, x3), (0, x4 + 1)] P' (zKs, n, m) ∧ zShR M0 P0 M' P' σ' k' w' (u + 1) N' X' ∧ M' 36 2 = M 36 2 := by
    intro M4 k' w' g1 g2 g3 g4 g5 g6
    rw [g2] at p3 zk
    have oo : ∀ r y, ((27 < r ∧ r < 30) ∨ (32 < r ∧ r < 36) ∨ (r = 27) ∨ (r = 36 ∧ y = 2)) → M4 r y = M1 r y := fun r y hr => by rw [g6 _ _ (by omega), o3 _ _ hr]
    refine ⟨M4, P2, zsp (P0 179) k (P0 181) (P0 178 5) σ, k', w', N', X', t1.trans g1, t2, ⟨F3.trans (fun r y hr => g6 r y (by omega)), G2, ⟨⟨⟨?_, ?_, ?_, ?_⟩, ?_⟩, fun a h0 h2 => ⟨?_, ?_, fun i i0 i1 => g3 a h0 h2 i i0 i1⟩⟩, ⟨⟨?_, ?_, ?_, ?_, ?_⟩, fun a h0 h2 => ?_, fun i i0 i1 => ?_⟩, ok1, ⟨?_, ?_, by omega, by omega⟩, ?_, g4, WR2 _ p3, g5, ⟨?_, t3.2⟩⟩, ?_⟩
    · rw [oo _ _ (by omega), y0]
    · rw [oo _ _ (by omega), y1]
    · rw [oo _ _ (by omega), y2]
    · rw [oo _ _ (by omega), y3]
    · rw [oo _ _ (by omega), y4]
    · rw [oo _ _ (by omega), (ym a h0 h2).1]
    · rw [oo _ _ (by omega), (ym a h0 h2).2.1]
    · rw [s5 _ _ (by omega), z0]
    · rw [s5 _ _ (by omega), z1]
    · rw [s5 _ _ (by omega), z2]
    · rw [s5 _ _ (by omega), z3]
    · rw [s5 _ _ (by omega), z4]
    · rw [s5 _ _ (by omega), s5 _ _ (by omega)]
      exact zm a h0 h2
    · rw [s5 _ _ (by omega)]
      exact zk i i0 i1
    · rw [oo _ _ (by omega), m3]
    · rw [s5 _ _ (by omega), p4]
    · obtain ⟨i1, i2, i3⟩ := nt3
      exact ⟨⟨by rw [g6 _ _ (by omega)]; exact i1.1, i1.2⟩, i2, fun i j0 j1 => by rw [g6 _ _ (by omega), g6 _ _ (by omega), g6 _ _ (by omega), g6 _ _ (by omega)]; exact i3 i j0 j1⟩
    · rw [g6 _ _ (by omega), t3.1]
    · rw [oo _ _ (by omega), m6 _ _ (by omega)]
  rcases hh with rfl | rfl
  · refine fin M3 k w ?_ zkw3_0 K3 W3 (by omega) (fun _ _ _ => rfl)
    simp only [q71_23, q71_34, ↓reduceIte, Int.reduceEq, Int.reduceLE, Int.reduceLT, Int.reduceAdd, Int.reduceSub, Int.reduceMul, Int.reduceNeg, zg_T, zbI_ok, zbL_ok, zbN_ok, zite1, zite2, zite3, zem, Int.cast_ofNat_Int, and_self, and_true, true_and, or_true, true_or, or_self, ite_not, if_true, if_false, not_true_eq_false, not_false_eq_true]
  · have C3 := F3.cc h.cc
    have hwn : ∀ a, 0 ≤ a → a ≤ 2 → ∀ i, 0 ≤ i → i < P0 179 a → P0 182 (40 * a + i) = 0 ∨ P0 182 (40 * a + i) = 1 := fun a h0 h2 i i0 i1 => by
      have := ((rc a h0 h2).2.2.2 i i0 i1).2.2.2.2.2.2.2
      omega
    have hp : ∀ a, 0 ≤ a → a ≤ 2 → 0 ≤ σ.2.2.1 a ∧ σ.2.2.1 a ≤ P0 179 a := fun a h0 h2 => by
      have := ok.2.2 a h0 h2
      omega
    have h33 : ∀ a, 0 ≤ a → a ≤ 2 → M3 33 a = zsa (P0 179) (P0 181) σ.2.2.1 σ.2.2.2 a := fun a h0 h2 => by
      rw [o3 _ _ (by omega), (ym a h0 h2).1]; rfl
    have h35 : ∀ a, 0 ≤ a → a ≤ 2 → M3 35 a = if σ.2.2.1 a < P0 179 a ∧ σ.2.2.2 a + 1 = P0 181 (40 * a + σ.2.2.1 a) then 1 else 0 := fun a h0 h2 => by
      rw [o3 _ _ (by omega), m5 a h0 h2]
    have hu3 : M3 27 6 = u + 1 := by rw [o3 _ _ (by omega), m3]
    obtain ⟨A, A1, A2, A3, A4⟩ := e73 (n := n) (m := m) (d := (9, 0)) (d' := (9, 0)) (p := σ.2.2.1) (g := σ.2.2.2) (s := (k, w)) (a := 0) (F3.pc r0) C3 hwn (by omega) (hp 0 (by omega) (by omega)) (h33 0 (by omega) (by omega)) (h35 0 (by omega) (by omega)) hu3 K3 W3 (by have : (k, w).2.1 = w.1 := rfl; omega)
    have w1 := zkw_le (m := P0 179) (l := P0 181) (wn := P0 182) (p := σ.2.2.1) (g := σ.2.2.2) (hs := 1) (u := u + 1) (s := (k, w)) (a := 0)
    have FA : zFj M0 A := F3.trans (fun r y hr => A4 r y (by omega))
    obtain ⟨B, B1, B2, B3, B4⟩ := e73 (n := n) (m := m) (d := (9, 0)) (d' := (9, 0)) (p := σ.2.2.1) (g := σ.2.2.2) (s := zkw (P0 179) (P0 181) (P0 182) σ.2.2.1 σ.2.2.2 1 (u + 1) (k, w) 0) (a := 1) (FA.pc r0) (FA.cc h.cc) hwn (by omega) (hp 1 (by omega) (by omega)) (by rw [A4 _ _ (by omega), h33 1 (by omega) (by omega)]) (by rw [A4 _ _ (by omega), h35 1 (by omega) (by omega)]) (by rw [A4 _ _ (by omega), hu3]) A2 A3 (by have : (k, w).2.1 = w.1 := rfl; omega)
    have w2 := zkw_le (m := P0 179) (l := P0 181) (wn := P0 182) (p := σ.2.2.1) (g := σ.2.2.2) (hs := 1) (u := u + 1) (s := zkw (P0 179) (P0 181) (P0 182) σ.2.2.1 σ.2.2.2 1 (u + 1) (k, w) 0) (a := 1)
    have FB : zFj M0 B := FA.trans (fun r y hr => B4 r y (by omega))
    obtain ⟨D, D1, D2, D3, D4⟩ := e73 (n := n) (m := m) (d := (9, 0)) (d' := (9, 0)) (p := σ.2.2.1) (g := σ.2.2.2) (s := zkw (P0 179) (P0 181) (P0 182) σ.2.2.1 σ.2.2.2 1 (u + 1) (zkw (P0 179) (P0 181) (P0 182) σ.2.2.1 σ.2.2.2 1 (u + 1) (k, w) 0) 1) (a := 2) (FB.pc r0) (FB.cc h.cc) hwn (by omega) (hp 2 (by omega) (by omega)) (by rw [B4 _ _ (by omega), A4 _ _ (by omega), h33 2 (by omega) (by omega)]) (by rw [B4 _ _ (by omega), A4 _ _ (by omega), h35 2 (by omega) (by omega)]) (by rw [B4 _ _ (by omega), A4 _ _ (by omega), hu3]) B2 B3 (by have : (k, w).2.1 = w.1 := rfl; omega)
    have w3 := zkw_le (m := P0 179) (l := P0 181) (wn := P0 182) (p := σ.2.2.1) (g := σ.2.2.2) (hs := 1) (u := u + 1) (s := zkw (P0 179) (P0 181) (P0 182) σ.2.2.1 σ.2.2.2 1 (u + 1) (zkw (P0 179) (P0 181) (P0 182) σ.2.2.1 σ.2.2.2 1 (u + 1) (k, w) 0) 1) (a := 2)
    have wz : 0 ≤ (zkw3 (P0 179) (P0 181) (P0 182) σ.2.2.1 σ.2.2.2 1 (u + 1) (k, w)).2.1 ∧ (zkw3 (P0 179) (P0 181) (P0 182) σ.2.2.1 σ.2.2.2 1 (u + 1) (k, w)).2.1 ≤ 3 * (u + 1) := by
      have : (k, w).2.1 = w.1 := rfl
      unfold zkw3
      omega
    refine fin D (zkw3 (P0 179) (P0 181) (P0 182) σ.2.2.1 σ.2.2.2 1 (u + 1) (k, w)).1 (zkw3 (P0 179) (P0 181) (P0 182) σ.2.2.1 σ.2.2.2 1 (u + 1) (k, w)).2 ?_ rfl D2 D3 wz (fun r y hr => by rw [D4 _ _ hr, B4 _ _ hr, A4 _ _ hr])
    simp (disch := omega) only [q71_23, q71_34, A1, B1, D1, zk_36, zg_pos, zI, ↓reduceIte, Int.reduceEq, Int.reduceLE, Int.reduceLT, Int.reduceAdd, Int.reduceSub, Int.reduceMul, Int.reduceNeg, zg_T, zbI_ok, zbL_ok, zbN_ok, zite1, zite2, zite3, zem, Int.cast_ofNat_Int, and_self, and_true, true_and, or_true, true_or, or_self, ite_not, if_true, if_false, not_true_eq_false, not_false_eq_true]
