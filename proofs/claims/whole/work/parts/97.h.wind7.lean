/-! WINDINGS: where both sides begin -/
theorem e86_0 {M : zM} {n m : Nat} {k : Int} {d3 d4 : zV} (r0 : zPC M) (hx : 0 ≤ M 17 0 ∧ M 17 0 ≤ 32000) (hy : 0 ≤ M 17 1 ∧ M 17 1 ≤ 32000) (hq : 0 ≤ M 17 2) (hh : 1 ≤ k ∧ k ≤ 8) : ∃ A, zex 86 0 [] [(2, 47), (2, 17), (0, k), d3, d4] M (zKs, n, m) = zex 86 40 [] [(2, 47), (2, 17), (0, k), (0, 0), d4] A (zKs, n, m) ∧ (A 47 4 = 0 ∧ A 47 5 = 0 ∧ A 47 6 = M 17 0 / 1000 ∧ A 47 7 = M 17 1 / 1000 ∧ A 47 8 = M 17 2 / 4 ∧ A 47 9 = 4 * k) ∧ (A 53 0 = 0 ∧ A 57 0 = 0 ∧ A 61 0 = 0) ∧ zWF M A := by
  have r1 := zPC_zu (a := 53) (b := 0) (v := 0) r0 (by decide +kernel)
  have r2 := zPC_zu (a := 57) (b := 0) (v := 0) r1 (by decide +kernel)
  have r3 := zPC_zu (a := 61) (b := 0) (v := 0) r2 (by decide +kernel)
  obtain ⟨A, hA⟩ : ∃ A, A = zu (zu (zu (zu (zu M 53 0 0) 57 0 0) 61 0 0) 47 4 0) 47 5 0 := ⟨_, rfl⟩
  have t1 : zex 86 0 [] [(2, 47), (2, 17), (0, k), d3, d4] M (zKs, n, m) = zex 86 19 [] [(2, 47), (2, 17), (0, k), (0, 3), d4] A (zKs, n, m) := by
    rw [hA, q86_0, q86_2, if_neg (by omega), zg_pos ⟨zk_47 n m, by rw [zp_47_3 r0]; omega⟩, zp_47_3 r0, zg_pos ⟨by rw [zk_52], by omega, by rw [zk_52]; dsimp only; omega, by rw [zp_52_0 r0]; omega⟩, zp_52_0 r0, zg_pos (zk_53 n m), q86_11, zg_pos (by unfold zI; omega), show (0 : Int) + 1 = 1 by omega, q86_2, if_neg (by omega), zg_pos ⟨zk_47 n m, by rw [zp_47_3 r1]; omega⟩, zp_47_3 r1, zg_pos ⟨by rw [zk_52], by omega, by rw [zk_52]; dsimp only; omega, by rw [zp_52_1 r1]; omega⟩, zp_52_1 r1, zg_pos (zk_57 n m), q86_11, zg_pos (by unfold zI; omega), show (1 : Int) + 1 = 2 by omega, q86_2, if_neg (by omega), zg_pos ⟨zk_47 n m, by rw [zp_47_3 r2]; omega⟩, zp_47_3 r2, zg_pos ⟨by rw [zk_52], by omega, by rw [zk_52]; dsimp only; omega, by rw [zp_52_2 r2]; omega⟩, zp_52_2 r2, zg_pos (zk_61 n m), q86_11, zg_pos (by unfold zI; omega), show (2 : Int) + 1 = 3 by omega, q86_2, if_pos (by omega), zg_pos ⟨zk_47 n m, .inl rfl⟩, q86_16, zg_pos (zk_47 n m)]
  have uA : ∀ r y, (r ≠ 53 ∨ y ≠ 0) → (r ≠ 57 ∨ y ≠ 0) → (r ≠ 61 ∨ y ≠ 0) → (r ≠ 47 ∨ (y ≠ 4 ∧ y ≠ 5)) → A r y = M r y := fun r y h1 h2 h3 h4 => by
    rw [hA, zu_nq (by omega), zu_nq (by omega), zu_nq (by omega), zu_nq (by omega), zu_nq (by omega)]
  have a4 : A 47 4 = 0 := by rw [hA, zu_nq (by omega), zus]
  have a5 : A 47 5 = 0 := by rw [hA, zus]
  have a53 : A 53 0 = 0 := by rw [hA, zu_nq (by omega), zu_nq (by omega), zu_nq (by omega), zu_nq (by omega), zus]
  have a57 : A 57 0 = 0 := by rw [hA, zu_nq (by omega), zu_nq (by omega), zu_nq (by omega), zus]
  have a61 : A 61 0 = 0 := by rw [hA, zu_nq (by omega), zu_nq (by omega), zus]
  clear hA
  have u17 : ∀ y, A 17 y = M 17 y := fun y => uA _ _ (by omega) (by omega) (by omega) (by omega)
  have c1 := e53 (M := A) (X := (zKs, n, m)) (zk_17 n m) (by rw [u17]; unfold zI; omega)
  rw [u17] at c1
  have c2 := e54 (M := zu A 47 6 (M 17 0 / 1000)) (X := (zKs, n, m)) (zk_17 n m) (by rw [zu_nq (by omega), u17]; unfold zI; omega)
  rw [zu_nq (by omega), u17] at c2
  have c3 : zu (zu A 47 6 (M 17 0 / 1000)) 47 7 (M 17 1 / 1000) 17 2 = M 17 2 := by rw [zu_nq (by omega), zu_nq (by omega), u17]
  refine ⟨zu (zu (zu (zu A 47 6 (M 17 0 / 1000)) 47 7 (M 17 1 / 1000)) 47 8 (M 17 2 / 4)) 47 9 (4 * k), ?_, ⟨?_, ?_, ?_, ?_, ?_, ?_⟩, ⟨?_, ?_, ?_⟩, fun r y hr => ?_⟩
  · rw [t1, q86_19, zg_pos (zk_17 n m), c1, zbI_ok, zg_pos (zk_47 n m), q86_23, zg_pos (zk_17 n m), c2, zbI_ok, zg_pos (zk_47 n m), q86_27, zg_pos (zk_17 n m), zg_pos (c := (0 : Int) < 4) (by omega), zg_pos (zk_47 n m), c3, ztd_p hq, q86_33, zg_pos (by unfold zI; omega), zg_pos (zk_47 n m), q86_38]
  · rw [zu_nq (by omega), zu_nq (by omega), zu_nq (by omega), zu_nq (by omega)]; exact a4
  · rw [zu_nq (by omega), zu_nq (by omega), zu_nq (by omega), zu_nq (by omega)]; exact a5
  · rw [zu_nq (by omega), zu_nq (by omega), zu_nq (by omega), zus]
  · rw [zu_nq (by omega), zu_nq (by omega), zus]
  · rw [zu_nq (by omega), zus]
  · rw [zus]
  · rw [zu_nq (by omega), zu_nq (by omega), zu_nq (by omega), zu_nq (by omega)]; exact a53
  · rw [zu_nq (by omega), zu_nq (by omega), zu_nq (by omega), zu_nq (by omega)]; exact a57
  · rw [zu_nq (by omega), zu_nq (by omega), zu_nq (by omega), zu_nq (by omega)]; exact a61
  · rw [zu_nq (by omega), zu_nq (by omega), zu_nq (by omega), zu_nq (by omega), uA r y (by omega) (by omega) (by omega) (by omega)]
theorem e187_0 {P : zM} {n m : Nat} {d2 d3 : zV} (r1 : zPR P) (hx : 0 ≤ P 178 10 ∧ P 178 10 ≤ 31) (hy : 0 ≤ P 178 11 ∧ P 178 11 ≤ 31) (hq : 0 ≤ P 178 12 ∧ P 178 12 ≤ 15) : ∃ B, zex 187 22 [] [(2, 178), (0, 0), d2, d3] P (zKs, n, m) = zex 187 55 [] [(2, 178), (0, 4 * (32 * P 178 11 + P 178 10) + P 178 12 / 4), (0, 0), d3] B (zKs, n, m) ∧ (B 178 63 = 0 ∧ B 178 64 = 0) ∧ (B 217 0 = 0 ∧ B 217 1 = 0 ∧ B 217 2 = 0) ∧ zWG P B := by
  have r2 := zPR_zu (a := 217) (b := 0) (v := 0) r1 (zPR_row (by decide +kernel))
  have r3 := zPR_zu (a := 217) (b := 1) (v := 0) r2 (zPR_row (by decide +kernel))
  obtain ⟨B, hB⟩ : ∃ B, B = zu (zu (zu (zu (zu P 217 0 0) 217 1 0) 217 2 0) 178 63 0) 178 64 0 := ⟨_, rfl⟩
  have t1 : zex 187 22 [] [(2, 178), (0, 0), d2, d3] P (zKs, n, m) = zex 187 38 [] [(2, 178), (0, 3), d2, d3] B (zKs, n, m) := by
    rw [hB, q187_22, if_neg (by omega), zg_pos ⟨zk_178 n m, by rw [zp_178_60 r1]; omega⟩, zp_178_60 r1, zg_pos ⟨by rw [zk_217], by omega, by rw [zk_217]; dsimp only; omega⟩, q187_30, zg_pos (by unfold zI; omega), show (0 : Int) + 1 = 1 by omega, q187_22, if_neg (by omega), zg_pos ⟨zk_178 n m, by rw [zp_178_60 r2]; omega⟩, zp_178_60 r2, zg_pos ⟨by rw [zk_217], by omega, by rw [zk_217]; dsimp only; omega⟩, q187_30, zg_pos (by unfold zI; omega), show (1 : Int) + 1 = 2 by omega, q187_22, if_neg (by omega), zg_pos ⟨zk_178 n m, by rw [zp_178_60 r3]; omega⟩, zp_178_60 r3, zg_pos ⟨by rw [zk_217], by omega, by rw [zk_217]; dsimp only; omega⟩, q187_30, zg_pos (by unfold zI; omega), show (2 : Int) + 1 = 3 by omega, q187_22, if_pos (by omega), zg_pos ⟨zk_178 n m, .inl rfl⟩, q187_35, zg_pos (zk_178 n m)]
  have uB : ∀ r y, (r ≠ 178 ∨ (y ≠ 63 ∧ y ≠ 64)) → (r ≠ 217 ∨ (y ≠ 0 ∧ y ≠ 1 ∧ y ≠ 2)) → B r y = P r y := fun r y h1 h2 => by
    rw [hB, zu_nq (by omega), zu_nq (by omega), zu_nq (by omega), zu_nq (by omega), zu_nq (by omega)]
  refine ⟨B, ?_, ⟨?_, ?_⟩, ⟨?_, ?_, ?_⟩, fun r y hr => uB r y (by omega) (by omega)⟩
  · have u10 := uB 178 10 (by omega) (by omega)
    have u11 := uB 178 11 (by omega) (by omega)
    have u12 := uB 178 12 (by omega) (by omega)
    rw [t1, q187_38, u10, u11, u12, zg_pos (zk_178 n m), zg_pos (by unfold zI; omega), zg_pos (zk_178 n m), zg_pos (by unfold zI; omega), zg_pos (by unfold zI; omega), zg_pos (zk_178 n m), zg_pos (c := (0 : Int) < 4) (by omega), ztd_p hq.1, zg_pos (by unfold zI; omega)]
  · rw [hB, zu_nq (by omega), zus]
  · rw [hB, zus]
  · rw [hB, zu_nq (by omega), zu_nq (by omega), zu_nq (by omega), zu_nq (by omega), zus]
  · rw [hB, zu_nq (by omega), zu_nq (by omega), zu_nq (by omega), zus]
  · rw [hB, zu_nq (by omega), zu_nq (by omega), zus]
/-- the windings of the wish, on either side -/
theorem zmake {q : Int} {M P : zM} (h : zRel q M P) (n m : Nat) : ∃ M1 P1, zWF M M1 ∧ zWG P P1 ∧ ((∃ v : Int, v < 0 ∧ zex 138 0 [] [(2, 1), (9, 0)] M (zKs, n, m) = some ((0, v), M1, (zKs, n, m)) ∧ zex 187 0 [] [(2, 178), (9, 0), (9, 0), (9, 0)] P (zKs, n, m) = some ((0, v), P1, (zKs, n, m))) ∨ ∃ v : Int, 0 ≤ v ∧ zex 138 0 [] [(2, 1), (9, 0)] M (zKs, n, m) = some ((0, v), M1, (zKs, n, m)) ∧ zex 187 0 [] [(2, 178), (9, 0), (9, 0), (9, 0)] P (zKs, n, m) = some ((0, 0), P1, (zKs, n, m)) ∧ P1 178 64 = v ∧ zWA M1 P1) := by
  obtain ⟨⟨r0, r1⟩, rc, rh, rp, rb, rs, rw0, rx, ro, rk, rt, rr⟩ := id h
  obtain ⟨s0, s1, s2, s3, s4, sx, sy, sq⟩ := id rs
  have c53 := e53 (M := M) (X := (zKs, n, m)) (zk_17 n m) (by rw [s0]; unfold zI; omega)
  have c54 := e54 (M := M) (X := (zKs, n, m)) (zk_17 n m) (by rw [s1]; unfold zI; omega)
  rw [s0, show (1000 * P 178 10 + 500) / 1000 = P 178 10 by omega] at c53
  rw [s1, show (1000 * P 178 11 + 500) / 1000 = P 178 11 by omega] at c54
  have cb := (rb.1 (P 178 11 * 32 + P 178 10) (by omega) (by omega)).1
  rw [show P 178 11 * 32 + P 178 10 = 32 * P 178 11 + P 178 10 by omega] at cb
  by_cases e : P 178 12 % 4 = 0
  · have C0 : zex 138 0 [] [(2, 1), (9, 0)] M (zKs, n, m) = if M 19 (32 * P 178 11 + P 178 10) = 0 then zbI (zex 86 0 [] [(2, 47), (2, 17), (0, P 178 5), (9, 0), (9, 0)] M (zKs, n, m)) (fun v4 M4 X4 => if 0 ≤ v4 then zg (zkd X4 1 = (17, 0) ∧ 0 < (M4 1 6)) (zg (zkd X4 (M4 1 6) = (16, 0)) (if (M4 (M4 1 6) 4) = 0 then zg (zkd X4 1 = (17, 0) ∧ 0 < (M4 1 3)) (zg (zkd X4 (M4 1 3) = (15, 0)) (if v4 ≤ (M4 (M4 1 3) 3) then zex 138 47 [(0, v4)] [(2, 1), (0, v4)] M4 X4 else zex 138 47 [(0, (-6 : Int))] [(2, 1), (0, v4)] M4 X4)) else some ((0, (-2 : Int)), M4, X4))) else some ((0, v4), M4, X4)) else some ((0, -4), M, (zKs, n, m)) := by
      rw [q138_0, zg_pos ⟨zk_1 n m, by rw [zp_1_1 r0]; omega⟩, zp_1_1 r0, zg_pos (zk_17 n m), zg_pos (c := (0 : Int) < 4) (by omega), s2, ztm_p sq.1, if_pos e, zg_pos ⟨zk_1 n m, by rw [zp_1_2 r0]; omega⟩, zp_1_2 r0, zg_pos ⟨zk_1 n m, by omega⟩, zg_pos (zk_17 n m), c53, zbI_ok, zg_pos ⟨zk_1 n m, by rw [zp_1_1 r0]; omega⟩, zp_1_1 r0, zg_pos (zk_17 n m), c54, zbI_ok, zg_pos (zk_18 n m), e36 r0, zbI_ok, show P 178 11 * 32 + P 178 10 = 32 * P 178 11 + P 178 10 by omega]
      by_cases e2 : M 19 (32 * P 178 11 + P 178 10) = 0
      · rw [show (if (0 ≤ P 178 10 ∧ P 178 10 ≤ 31) ∧ (0 ≤ P 178 11 ∧ P 178 11 ≤ 31) ∧ M 19 (32 * P 178 11 + P 178 10) = 0 then (1 : Int) else 0) = 1 from if_pos ⟨sx, sy, e2⟩, if_neg (by omega), zg_pos ⟨zk_1 n m, by rw [zp_1_6 r0]; omega⟩, zg_pos ⟨zk_1 n m, by rw [zp_1_1 r0]; omega⟩, zg_pos ⟨zk_1 n m, by rw [zp_1_0 r0]; omega⟩, zp_1_0 r0, zg_pos (zk_2 n m), zp_1_6 r0, zg_pos (zk_47 n m), zp_1_1 r0, rh.1, if_pos e2]
      · rw [show (if (0 ≤ P 178 10 ∧ P 178 10 ≤ 31) ∧ (0 ≤ P 178 11 ∧ P 178 11 ≤ 31) ∧ M 19 (32 * P 178 11 + P 178 10) = 0 then (1 : Int) else 0) = 0 from if_neg (fun z => e2 z.2.2), if_pos rfl, if_neg e2]
    have R0 : zex 187 0 [] [(2, 178), (9, 0), (9, 0), (9, 0)] P (zKs, n, m) = if P 185 (32 * P 178 11 + P 178 10) = 0 then zex 187 22 [] [(2, 178), (0, 0), (9, 0), (9, 0)] P (zKs, n, m) else some ((0, -4), P, (zKs, n, m)) := by
      rw [q187_0, zg_pos (zk_178 n m), zg_pos (c := (0 : Int) < 4) (by omega), ztm_p sq.1, if_pos e, zg_pos ⟨zk_178 n m, by rw [zp_178_9 r1]; omega⟩, zp_178_9 r1, zg_pos (zk_178 n m), zg_pos (by unfold zI; omega), zg_pos (zk_178 n m), zg_pos (by unfold zI; omega), zg_pos ⟨by rw [zk_185], by omega, by rw [zk_185]; dsimp only; omega⟩]
    by_cases e2 : P 185 (32 * P 178 11 + P 178 10) = 0
    · rw [cb, if_pos e2] at C0
      rw [if_pos e2] at R0
      obtain ⟨A, a1, a2, a3, a4⟩ := e86_0 (n := n) (m := m) (k := P 178 5) (d3 := (9, 0)) (d4 := (9, 0)) r0 (by omega) (by omega) (by omega) rh.2
      obtain ⟨B, b1, b2, b3, b4⟩ := e187_0 (n := n) (m := m) (d2 := (9, 0)) (d3 := (9, 0)) r1 sx sy sq
      have hAB := h.way a4 b4
      have w53 : ∀ a, 0 ≤ a → a ≤ 2 → A (53 + 4 * a) 0 = 0 ∧ B 217 a = 0 := fun a a0 a1 => by
        have : a = 0 ∨ a = 1 ∨ a = 2 := by omega
        rcases this with rfl | rfl | rfl
        · exact ⟨a3.1, b3.1⟩
        · exact ⟨a3.2.1, b3.2.1⟩
        · exact ⟨a3.2.2, b3.2.2⟩
      have R : zRn A B := ⟨by rw [a2.2.1, b2.2], by rw [a2.1, b2.1], .inl ⟨b2.1, fun a a0 a1 => by
        obtain ⟨z1, z2⟩ := w53 a a0 a1
        exact ⟨by rw [z1, z2], by rw [z2]; omega, fun i i0 i1 => by rw [z2] at i1; omega⟩⟩⟩
      have B5 : B 178 5 = P 178 5 := b4 _ _ (by omega)
      have B17 : B 178 17 = P 178 17 := b4 _ _ (by omega)
      have B185 : B 185 = P 185 := funext fun t => b4 _ _ (by omega)
      have S : zSt A B (4 * (32 * P 178 11 + P 178 10) + P 178 12 / 4) := by
        obtain ⟨-, -, z6, z7, z8, z9⟩ := a2
        rw [s0, show (1000 * P 178 10 + 500) / 1000 = P 178 10 by omega] at z6
        rw [s1, show (1000 * P 178 11 + 500) / 1000 = P 178 11 by omega] at z7
        rw [s2] at z8
        unfold zSt
        rw [z6, z7, z8, z9, B5, B185]
        exact ⟨⟨sx, sy, e2⟩, by omega, rfl, rfl⟩
      have hx17 := rx.2.1
      obtain ⟨M1, P1, w1, w2, H⟩ := p86_lp (q := q) (n := n) (m := m) (x2 := P 178 5) (P 178 17).toNat A B _ 0 (9, 0) (9, 0) hAB R S (by omega) (by omega) (by omega) (by omega)
      have v1 := a4.trans w1
      have v2 := b4.trans w2
      have hM := h.way v1 v2
      obtain ⟨⟨m0, m1⟩, -, -, -, -, -, mw, -⟩ := id hM
      refine ⟨M1, P1, v1, v2, ?_⟩
      rw [a1] at C0
      rw [b1] at R0
      rcases H with ⟨v, hv, g1, g2⟩ | ⟨g1, g2, g3, g4⟩
      · rw [g1, zbI_ok, if_neg (by omega)] at C0
        exact .inl ⟨v, by omega, C0, R0.trans g2⟩
      · rw [g1, zbI_ok, if_pos g4, zg_pos ⟨zk_1 n m, by rw [zp_1_6 m0]; omega⟩, zp_1_6 m0, zg_pos (zk_47 n m)] at C0
        obtain ⟨k1, k2, k3⟩ := id g3
        by_cases f : P1 178 63 = 0
        · rw [if_pos (by rw [k2]; exact f), zg_pos ⟨zk_1 n m, by rw [zp_1_3 m0]; omega⟩, zp_1_3 m0, zg_pos (zk_25 n m), mw.2.2.2.2.1] at C0
          rw [if_pos f] at g2
          by_cases f2 : P1 178 64 ≤ P1 178 16
          · rw [if_pos (by rw [k1]; exact f2), q138_47] at C0
            rw [if_pos f2] at g2
            refine .inr ⟨M1 47 5, g4, C0, R0.trans g2, k1.symm, ?_⟩
            rcases k3 with ⟨-, k3⟩ | ⟨k3, -⟩
            · exact k3
            · omega
          · rw [if_neg (by rw [k1]; exact f2), q138_47] at C0
            rw [if_neg f2] at g2
            exact .inl ⟨-6, by omega, C0, R0.trans g2⟩
        · rw [if_neg (by rw [k2]; exact f)] at C0
          rw [if_neg f] at g2
          exact .inl ⟨-2, by omega, C0, R0.trans g2⟩
    · rw [cb, if_neg e2] at C0
      rw [if_neg e2] at R0
      exact ⟨M, P, zWF.rfl, zWG.rfl, .inl ⟨-4, by omega, C0, R0⟩⟩
  · refine ⟨M, P, zWF.rfl, zWG.rfl, .inl ⟨-5, by omega, ?_, ?_⟩⟩
    · rw [q138_0, zg_pos ⟨zk_1 n m, by rw [zp_1_1 r0]; omega⟩, zp_1_1 r0, zg_pos (zk_17 n m), zg_pos (c := (0 : Int) < 4) (by omega), s2, ztm_p sq.1, if_neg e]
    · rw [q187_0, zg_pos (zk_178 n m), zg_pos (c := (0 : Int) < 4) (by omega), ztm_p sq.1, if_neg e]
