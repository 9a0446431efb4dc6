/-! WINDINGS: make -/
theorem zrp52 {M : zM} (h : zPC M) {a : Int} (ha : 0 ≤ a ∧ a ≤ 2) : M 52 a = 53 + 4 * a := by
  rcases (by omega : a = 0 ∨ a = 1 ∨ a = 2) with rfl | rfl | rfl
  · exact zp_52_0 h
  · exact zp_52_1 h
  · exact zp_52_2 h
theorem zmkC {n m : Nat} {v : Int} : ∀ (c : Nat) (a : Int) (M : zM), 0 ≤ a → a + c = 3 → zPC M → (∀ b, a ≤ b → b ≤ 2 → 0 ≤ M (53 + 4 * b) 0 ∧ M (53 + 4 * b) 0 ≤ 40) → ∃ M', zex 112 7 [] [(2, 1), (0, v), (0, a)] M (zKs, n, m) = some ((0, v), M', (zKs, n, m)) ∧ (∀ r y, (r < 5 + 4 * a ∨ 16 < r ∨ ((r = 5 ∨ r = 9 ∨ r = 13) ∧ y ≠ 0)) → M' r y = M r y) ∧ ∀ b, a ≤ b → b ≤ 2 → M' (5 + 4 * b) 0 = M (53 + 4 * b) 0 ∧ ∀ i, 0 ≤ i → i < M (53 + 4 * b) 0 → M' (6 + 4 * b) i = M (54 + 4 * b) i ∧ M' (7 + 4 * b) i = M (55 + 4 * b) i ∧ M' (8 + 4 * b) i = M (56 + 4 * b) i
  | 0, a, M, h0, hc, r0, hb => ⟨M, by rw [q112_7, if_pos (by omega), q112_23], fun _ _ _ => rfl, fun b b0 b1 => by omega⟩
  | c + 1, a, M, h0, hc, r0, hb => by
    have ha : 0 ≤ a ∧ a ≤ 2 := by omega
    have ba := hb a (Int.le_refl _) ha.2
    have e := e14 (e := (9, 0)) (zCd3 r0 n m ha) (zCd_w r0 n m ha) (by omega) ba.1 ba.2
    generalize hN : M (53 + 4 * a) 0 = N at e ba
    have fr : ∀ r y, (r < 5 + 4 * a ∨ 8 + 4 * a < r ∨ (r = 5 + 4 * a ∧ y ≠ 0)) → zbc M (5 + 4 * a) (53 + 4 * a) N N r y = M r y := fun r y hr => by
      by_cases k : r = 5 + 4 * a
      · rw [k]; exact zbc_c (by omega)
      · exact zbc_r (by omega) y
    have rN : zPC (zbc M (5 + 4 * a) (53 + 4 * a) N N) := zPC_t (fun r y => decide (5 ≤ r ∧ r ≤ 16) && !decide ((r = 5 ∨ r = 9 ∨ r = 13) ∧ y ≠ 0)) (by decide +kernel) r0 (fun r y hr => fr r y (by simp at hr; omega))
    have v0 : zbc M (5 + 4 * a) (53 + 4 * a) N N (5 + 4 * a) 0 = N := zbc_n
    have vi : ∀ i, 0 ≤ i → i < N → zbc M (5 + 4 * a) (53 + 4 * a) N N (6 + 4 * a) i = M (54 + 4 * a) i ∧ zbc M (5 + 4 * a) (53 + 4 * a) N N (7 + 4 * a) i = M (55 + 4 * a) i ∧ zbc M (5 + 4 * a) (53 + 4 * a) N N (8 + 4 * a) i = M (56 + 4 * a) i := fun i i0 i1 => by
      unfold zbc
      refine ⟨?_, ?_, ?_⟩
      · rw [if_neg (by omega), if_pos (by omega), show 53 + 4 * a + 1 = 54 + 4 * a by omega]
      · rw [if_neg (by omega), if_neg (by omega), if_pos (by omega), show 53 + 4 * a + 2 = 55 + 4 * a by omega]
      · rw [if_neg (by omega), if_neg (by omega), if_neg (by omega), if_pos (by omega), show 53 + 4 * a + 3 = 56 + 4 * a by omega]
    have s1 : zex 112 7 [] [(2, 1), (0, v), (0, a)] M (zKs, n, m) = zex 112 7 [] [(2, 1), (0, v), (0, a + 1)] (zbc M (5 + 4 * a) (53 + 4 * a) N N) (zKs, n, m) := by
      rw [q112_7, if_neg (by omega), zg_pos ⟨zk_1 n m, by rw [zp_1_0 r0]; omega⟩, zp_1_0 r0, zg_pos ⟨zk_2 n m, by rw [zp_2_0 r0]; omega⟩, zp_2_0 r0, zg_pos ⟨by rw [zk_3], by omega, by rw [zk_3]; dsimp only; omega, by rw [zrp3 r0 ha]; omega⟩, zrp3 r0 ha, zg_pos ⟨zk_1 n m, by rw [zp_1_6 r0]; omega⟩, zp_1_6 r0, zg_pos ⟨zk_47 n m, by rw [zp_47_3 r0]; omega⟩, zp_47_3 r0, zg_pos ⟨by rw [zk_52], by omega, by rw [zk_52]; dsimp only; omega, by rw [zrp52 r0 ha]; omega⟩, zrp52 r0 ha, zg_pos (zrk3 n m ha), e, zbN_ok, zg_pos (by unfold zI; omega)]
    generalize zbc M (5 + 4 * a) (53 + 4 * a) N N = M1 at s1 fr rN v0 vi
    obtain ⟨M', g1, g2, g3⟩ := zmkC (n := n) (m := m) (v := v) c (a + 1) M1 (by omega) (by omega) rN (fun b b0 b1 => by rw [fr _ _ (by omega)]; exact hb b (by omega) b1)
    refine ⟨M', s1.trans g1, fun r y hr => by rw [g2 r y (by omega), fr r y (by omega)], fun b b0 b1 => ?_⟩
    by_cases k : b = a
    · rw [k, hN]
      refine ⟨by rw [g2 _ _ (by omega)]; exact v0, fun i i0 i1 => ?_⟩
      rw [g2 _ _ (by omega), g2 _ _ (by omega), g2 _ _ (by omega)]
      exact vi i i0 i1
    · have g := g3 b (by omega) b1
      rw [fr (53 + 4 * b) 0 (by omega)] at g
      refine ⟨g.1, fun i i0 i1 => ?_⟩
      have g' := g.2 i i0 i1
      rw [fr (54 + 4 * b) i (by omega), fr (55 + 4 * b) i (by omega), fr (56 + 4 * b) i (by omega)] at g'
      exact g'
/-- one cord of the reference's -/
theorem zmkI {n m : Nat} {v a N : Int} (ha : 0 ≤ a ∧ a ≤ 2) (hN : 0 ≤ N ∧ N ≤ 40) : ∀ (c : Nat) (i : Int) (P : zM), zPR P → P 179 a = N → 40 * a ≤ i → i + c = 40 * a + N → ∃ P' d, zex 188 24 [] [(2, 178), (0, v), (0, a), (0, i)] P (zKs, n, m) = zex 188 9 [] [(2, 178), (0, v), (0, a + 1), (0, d)] P' (zKs, n, m) ∧ (∀ r y, (r < 180 ∨ 182 < r ∨ y < i ∨ 40 * a + N ≤ y) → P' r y = P r y) ∧ ∀ y, i ≤ y → y < 40 * a + N → P' 180 y = P 218 y ∧ P' 181 y = P 219 y ∧ P' 182 y = 0
  | 0, i, P, r1, hn, h0, hc => ⟨P, i, by rw [q188_24, zg_pos (by unfold zI; omega), zg_pos ⟨zk_178 n m, by rw [zp_178_1 r1]; omega⟩, zp_178_1 r1, zg_pos ⟨by rw [zk_179], by omega, by rw [zk_179]; dsimp only; omega⟩, hn, zg_pos (by unfold zI; omega), if_pos (by omega), zg_pos (by unfold zI; omega)], fun _ _ _ => rfl, fun y y0 y1 => by omega⟩
  | c + 1, i, P, r1, hn, h0, hc => by
    have r2 := zPR_zu (a := 180) (b := i) (v := P 218 i) r1 (zPR_row (by decide +kernel))
    have r3 := zPR_zu (a := 181) (b := i) (v := P 219 i) r2 (zPR_row (by decide +kernel))
    have r4 := zPR_zu (a := 182) (b := i) (v := 0) r3 (zPR_row (by decide +kernel))
    have s1 : zex 188 24 [] [(2, 178), (0, v), (0, a), (0, i)] P (zKs, n, m) = zex 188 24 [] [(2, 178), (0, v), (0, a), (0, i + 1)] (zu (zu (zu P 180 i (P 218 i)) 181 i (P 219 i)) 182 i 0) (zKs, n, m) := by
      rw [q188_24, zg_pos (by unfold zI; omega), zg_pos ⟨zk_178 n m, by rw [zp_178_1 r1]; omega⟩, zp_178_1 r1, zg_pos ⟨by rw [zk_179], by omega, by rw [zk_179]; dsimp only; omega⟩, hn, zg_pos (by unfold zI; omega), if_neg (by omega), zg_pos ⟨zk_178 n m, by rw [zp_178_2 r1]; omega⟩, zp_178_2 r1, zg_pos ⟨zk_178 n m, by rw [zp_178_61 r1]; omega⟩, zp_178_61 r1, zg_pos ⟨by rw [zk_218], by omega, by rw [zk_218]; dsimp only; omega⟩, zg_pos ⟨by rw [zk_180], by omega, by rw [zk_180]; dsimp only; omega⟩, q188_42, zg_pos ⟨zk_178 n m, by rw [zp_178_3 r2]; omega⟩, zp_178_3 r2, zg_pos ⟨zk_178 n m, by rw [zp_178_62 r2]; omega⟩, zp_178_62 r2, zg_pos ⟨by rw [zk_219], by omega, by rw [zk_219]; dsimp only; omega⟩, zg_pos ⟨by rw [zk_181], by omega, by rw [zk_181]; dsimp only; omega⟩, zun (show (219 : Int) ≠ 180 by omega), q188_50, zg_pos ⟨zk_178 n m, by rw [zp_178_4 r3]; omega⟩, zp_178_4 r3, zg_pos ⟨by rw [zk_182], by omega, by rw [zk_182]; dsimp only; omega⟩, q188_55, zg_pos (by unfold zI; omega)]
    have fr : ∀ r y, (r < 180 ∨ 182 < r ∨ y ≠ i) → zu (zu (zu P 180 i (P 218 i)) 181 i (P 219 i)) 182 i 0 r y = P r y := fun r y hr => by
      rw [zu_nq (by omega), zu_nq (by omega), zu_nq (by omega)]
    have v1 : zu (zu (zu P 180 i (P 218 i)) 181 i (P 219 i)) 182 i 0 180 i = P 218 i := by rw [zu_nq (by omega), zu_nq (by omega), zus]
    have v2 : zu (zu (zu P 180 i (P 218 i)) 181 i (P 219 i)) 182 i 0 181 i = P 219 i := by rw [zu_nq (by omega), zus]
    have v3 : zu (zu (zu P 180 i (P 218 i)) 181 i (P 219 i)) 182 i 0 182 i = 0 := zus
    generalize zu (zu (zu P 180 i (P 218 i)) 181 i (P 219 i)) 182 i 0 = P1 at s1 fr r4 v1 v2 v3
    obtain ⟨P', d, g1, g2, g3⟩ := zmkI (n := n) (m := m) (v := v) ha hN c (i + 1) P1 r4 (by rw [fr _ _ (by omega)]; exact hn) (by omega) (by omega)
    refine ⟨P', d, s1.trans g1, fun r y hr => by rw [g2 r y (by omega), fr r y (by omega)], fun y y0 y1 => ?_⟩
    by_cases k : y = i
    · rw [k, g2 180 i (by omega), g2 181 i (by omega), g2 182 i (by omega)]
      exact ⟨v1, v2, v3⟩
    · have g := g3 y (by omega) y1
      rw [fr 218 y (by omega), fr 219 y (by omega)] at g
      exact g
theorem zmkR {n m : Nat} {v : Int} : ∀ (c : Nat) (a : Int) (P : zM) (d3 : zV), zPR P → 0 ≤ a → a + c = 3 → (∀ b, 0 ≤ b → b ≤ 2 → 0 ≤ P 217 b ∧ P 217 b ≤ 40) → ∃ P', zex 188 9 [] [(2, 178), (0, v), (0, a), d3] P (zKs, n, m) = some ((0, P 178 64), P', (zKs, n, m)) ∧ (∀ r y, (r < 179 ∨ 182 < r ∨ (r = 179 ∧ y < a) ∨ (180 ≤ r ∧ y < 40 * a)) → P' r y = P r y) ∧ ∀ b, a ≤ b → b ≤ 2 → P' 179 b = P 217 b ∧ ∀ i, 0 ≤ i → i < P 217 b → P' 180 (40 * b + i) = P 218 (40 * b + i) ∧ P' 181 (40 * b + i) = P 219 (40 * b + i) ∧ P' 182 (40 * b + i) = 0
  | 0, a, P, d3, r1, h0, hc, hb => ⟨P, by rw [q188_9, if_pos (by omega), zg_pos (zk_178 n m)], fun _ _ _ => rfl, fun b b0 b1 => by omega⟩
  | c + 1, a, P, d3, r1, h0, hc, hb => by
    have ba := hb a h0 (by omega)
    have r2 := zPR_zu (a := 179) (b := a) (v := P 217 a) r1 (zPR_row (by decide +kernel))
    have s1 : zex 188 9 [] [(2, 178), (0, v), (0, a), d3] P (zKs, n, m) = zex 188 24 [] [(2, 178), (0, v), (0, a), (0, 40 * a)] (zu P 179 a (P 217 a)) (zKs, n, m) := by
      rw [q188_9, if_neg (by omega), zg_pos ⟨zk_178 n m, by rw [zp_178_1 r1]; omega⟩, zp_178_1 r1, zg_pos ⟨zk_178 n m, by rw [zp_178_60 r1]; omega⟩, zp_178_60 r1, zg_pos ⟨by rw [zk_217], by omega, by rw [zk_217]; dsimp only; omega⟩, zg_pos ⟨by rw [zk_179], by omega, by rw [zk_179]; dsimp only; omega⟩, q188_20, zg_pos (by unfold zI; omega)]
    obtain ⟨P1, d, g1, g2, g3⟩ := zmkI (n := n) (m := m) (v := v) (a := a) (N := P 217 a) (by omega) ba (P 217 a).toNat (40 * a) _ r2 zus (Int.le_refl _) (by omega)
    have f1 : ∀ r y, (r < 179 ∨ 182 < r ∨ (r = 179 ∧ y ≠ a) ∨ (180 ≤ r ∧ (y < 40 * a ∨ 40 * a + P 217 a ≤ y))) → P1 r y = P r y := fun r y hr => by rw [g2 r y (by omega), zu_nq (by omega)]
    have n1 : P1 179 a = P 217 a := by rw [g2 _ _ (by omega), zus]
    have rP : zPR P1 := zPR_t (fun r y => decide (179 ≤ r ∧ r ≤ 182)) (by decide +kernel) r1 (fun r y hr => f1 r y (by simp at hr; omega))
    obtain ⟨P', k1, k2, k3⟩ := zmkR (n := n) (m := m) (v := v) c (a + 1) P1 (0, d) rP (by omega) (by omega) (fun b b0 b1 => by rw [f1 _ _ (by omega)]; exact hb b b0 b1)
    refine ⟨P', ?_, fun r y hr => by rw [k2 r y (by omega), f1 r y (by omega)], fun b b0 b1 => ?_⟩
    · rw [s1, g1, k1, f1 _ _ (by omega)]
    · by_cases k : b = a
      · rw [k, k2 _ _ (by omega)]
        refine ⟨n1, fun i i0 i1 => ?_⟩
        rw [k2 _ _ (by omega), k2 _ _ (by omega), k2 _ _ (by omega)]
        have g' := g3 (40 * a + i) (by omega) (by omega)
        rw [zun (show (218 : Int) ≠ 179 by omega), zun (show (219 : Int) ≠ 179 by omega)] at g'
        exact g'
      · have g := k3 b (by omega) b1
        rw [f1 217 b (by omega)] at g
        refine ⟨g.1, fun i i0 i1 => ?_⟩
        have g' := g.2 i i0 i1
        rw [f1 218 _ (by omega), f1 219 _ (by omega)] at g'
        exact g'
theorem o_make {q : Int} {M P : zM} (h : zRel q M P) (n m : Nat) : zOpn q 112 188 [(9, 0), (9, 0)] [(9, 0), (9, 0), (9, 0)] M P n m := by
  obtain ⟨M1, P1, w1, w2, H⟩ := zmake h n m
  have h1 := h.way w1 w2
  rcases H with ⟨v, hv, a1, a2⟩ | ⟨v, hv, a1, a2, a3, a4⟩
  · refine ⟨v, M1, P1, ?_, zWF_cf w1, ?_, zWG_rf w2, h1⟩
    · rw [q112_0, zg_pos (zk_1 n m), a1, zbI_ok, if_pos hv, q112_23]
    · rw [q188_0, zg_pos (zk_178 n m), a2, zbI_ok, if_neg (by omega)]
  · obtain ⟨⟨r0, r1⟩, rc, rh, rp, rb, rs, rw0, rx, ro, rk, rt, rr⟩ := id h1
    have len : ∀ b, 0 ≤ b → b ≤ 2 → 0 ≤ P1 217 b ∧ P1 217 b ≤ 40 := fun b b0 b1 => (a4 b b0 b1).2.1
    obtain ⟨M2, b1, u1, b3⟩ := zmkC (n := n) (m := m) (v := v) 3 0 M1 (by omega) (by omega) r0 (fun b b0 b1 => by rw [(a4 b b0 b1).1]; exact len b b0 b1)
    obtain ⟨P2, c1, u2, c3⟩ := zmkR (n := n) (m := m) (v := 0) 3 0 P1 (9, 0) r1 (by omega) (by omega) len
    have k1 : zPC M2 := zPC_t (fun r y => decide (5 ≤ r ∧ r ≤ 16) && !decide ((r = 5 ∨ r = 9 ∨ r = 13) ∧ y ≠ 0)) (by decide +kernel) r0 (fun r y hr => u1 r y (by simp at hr; omega))
    have k2 : zPR P2 := zPR_t (fun r y => decide (179 ≤ r ∧ r ≤ 182)) (by decide +kernel) r1 (fun r y hr => u2 r y (by simp at hr; omega))
    have kc : zRc M2 2 (P2 179) (P2 180) (P2 181) (P2 182) := fun a h0 h2 => by
      obtain ⟨x1, x2⟩ := b3 a h0 h2
      obtain ⟨y1, y2⟩ := c3 a h0 h2
      obtain ⟨z1, z2, z3⟩ := a4 a h0 h2
      rw [show (2 : Int) + 3 + 4 * a = 5 + 4 * a by omega, show (2 : Int) + 4 + 4 * a = 6 + 4 * a by omega, show (2 : Int) + 5 + 4 * a = 7 + 4 * a by omega, show (2 : Int) + 6 + 4 * a = 8 + 4 * a by omega, y1, x1]
      refine ⟨z1, z2.1, z2.2, fun i i0 i1 => ?_⟩
      obtain ⟨x3, x4, x5⟩ := x2 i i0 (by rw [z1]; exact i1)
      obtain ⟨y3, y4, y5⟩ := y2 i i0 i1
      obtain ⟨z4, z5, z6, z7, z8, z9⟩ := z3 i i0 i1
      rw [show 53 + 4 * a + 1 = 54 + 4 * a by omega] at z4
      rw [show 53 + 4 * a + 2 = 55 + 4 * a by omega] at z5
      rw [show 53 + 4 * a + 3 = 56 + 4 * a by omega] at z6
      rw [x3, x4, x5, y3, y4, y5, z4, z5, z6]
      exact ⟨rfl, rfl, rfl, z7.1, by omega, z8, z9, by omega, by omega⟩
    refine ⟨v, M2, P2, ?_, (zWF_cf w1).trans (fun r y hr => u1 r y (by omega)), ?_, (zWG_rf w2).trans (fun r y hr => u2 r y (by omega)), ⟨⟨k1, k2⟩, kc, (by (simp (disch := omega) only [u1, u2]; exact rh)), rp.of (by (intros; first | rfl | (simp (disch := omega) only [u1, u2, and_self]))) (by (intros; first | rfl | (simp (disch := omega) only [u1, u2, and_self]))) (by (intros; first | rfl | (simp (disch := omega) only [u1, u2, and_self]))) (by (intros; first | rfl | (simp (disch := omega) only [u1, u2, and_self]))), rb.of (by (intros; first | rfl | (simp (disch := omega) only [u1, u2, and_self]))) (by (intros; first | rfl | (simp (disch := omega) only [u1, u2, and_self]))) (by (intros; first | rfl | (simp (disch := omega) only [u1, u2, and_self]))), rs.of (by (intros; first | rfl | (simp (disch := omega) only [u1, u2, and_self]))) (by (intros; first | rfl | (simp (disch := omega) only [u1, u2, and_self]))) (by (intros; first | rfl | (simp (disch := omega) only [u1, u2, and_self]))) (by (intros; first | rfl | (simp (disch := omega) only [u1, u2, and_self]))), rw0.of (by (intros; first | rfl | (simp (disch := omega) only [u1, u2, and_self]))) (by (intros; first | rfl | (simp (disch := omega) only [u1, u2, and_self]))) (by (intros; first | rfl | (simp (disch := omega) only [u1, u2, and_self]))) (by (intros; first | rfl | (simp (disch := omega) only [u1, u2, and_self]))) (by (intros; first | rfl | (simp (disch := omega) only [u1, u2, and_self]))) (by (intros; first | rfl | (simp (disch := omega) only [u1, u2, and_self]))), rx.of (by (intros; first | rfl | (simp (disch := omega) only [u1, u2, and_self]))) (by (intros; first | rfl | (simp (disch := omega) only [u1, u2, and_self]))) (by (intros; first | rfl | (simp (disch := omega) only [u1, u2, and_self]))) (by (intros; first | rfl | (simp (disch := omega) only [u1, u2, and_self]))), ro.of (by (intros; first | rfl | (simp (disch := omega) only [u1, u2, and_self]))) (by (intros; first | rfl | (simp (disch := omega) only [u1, u2, and_self]))) (by (intros; first | rfl | (simp (disch := omega) only [u1, u2, and_self]))) (by (intros; first | rfl | (simp (disch := omega) only [u1, u2, and_self]))), rk.of (by (intros; first | rfl | (simp (disch := omega) only [u1, u2, and_self]))) (by (intros; first | rfl | (simp (disch := omega) only [u1, u2, and_self]))) (by (intros; first | rfl | (simp (disch := omega) only [u1, u2, and_self]))) (by (intros; first | rfl | (simp (disch := omega) only [u1, u2, and_self]))) (by (intros; first | rfl | (simp (disch := omega) only [u1, u2, and_self]))), rt.of (by (intros; first | rfl | (simp (disch := omega) only [u1, u2, and_self]))) (by (intros; first | rfl | (simp (disch := omega) only [u1, u2, and_self]))), (by (simp (disch := omega) only [u1, u2]; exact rr))⟩⟩
    · rw [q112_0, zg_pos (zk_1 n m), a1, zbI_ok, if_neg (by omega), b1]
    · rw [q188_0, zg_pos (zk_178 n m), a2, zbI_ok, if_pos rfl, c1, a3]
theorem lw_579 : zLop 579 := fun {q L x M n m e5 e6 e7} H hq h0 hn hm hx hL => by
  obtain ⟨v, M1, P1, a1, a2, a3, a4, a5⟩ := lw_op (q' := q) H (by omega) (fun P hP => (o_make hP n m))
  refine ⟨P1, n, m, e5, e6, e7, ?_, a3, by omega, by omega⟩
  rw [q228_579, zg_pos (zk_1 n m), a1, zbI_ok, zg_pos (zk_178 n m), a2, zbI_ok, if_pos rfl, q228_1000, zg_pos (by unfold zI; omega)]
