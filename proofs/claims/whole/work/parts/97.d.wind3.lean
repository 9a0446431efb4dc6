/-! WINDINGS: all three cords -/
def zWA (M P : zM) : Prop := ∀ a, 0 ≤ a → a ≤ 2 → zWn M P (53 + 4 * a) a
/-- either both have room and agree, or neither has -/
def zRm (M P : zM) : Prop := (P 178 63 = 0 ∧ zWA M P) ∨ (P 178 63 = 1 ∧ ∃ Q, zPR Q ∧ Q 178 63 = 0 ∧ zWA M Q)
def zRn (M P : zM) : Prop := M 47 5 = P 178 64 ∧ M 47 4 = P 178 63 ∧ zRm M P
def zfc (M M1 : zM) : Prop := ∀ r y, (r < 53 ∨ 64 < r ∨ ((r = 53 ∨ r = 57 ∨ r = 61) ∧ y ≠ 0)) → M1 r y = M r y
def zfp (P P1 : zM) : Prop := ∀ r y, ((r ≠ 178 ∨ y ≠ 63) ∧ (r < 217 ∨ 219 < r)) → P1 r y = P r y
theorem zWn.of {M P M1 P1 : zM} {c a : Int} (h : zWn M P c a) (ha : 0 ≤ a ∧ a ≤ 2) (u1 : ∀ r y, c ≤ r → r ≤ c + 3 → M1 r y = M r y) (u2 : ∀ r y, ((r = 217 ∧ y = a) ∨ ((r = 218 ∨ r = 219) ∧ 40 * a ≤ y ∧ y < 40 * a + 40)) → P1 r y = P r y) : zWn M1 P1 c a := by
  obtain ⟨w1, w2, w3⟩ := h
  refine ⟨by rw [u1 _ _ (by omega) (by omega), u2 _ _ (by omega)]; exact w1, by rw [u2 _ _ (by omega)]; exact w2, fun i i0 i1 => ?_⟩
  rw [u2 _ _ (by omega)] at i1
  rw [u1 _ _ (by omega) (by omega), u1 _ _ (by omega) (by omega), u1 _ _ (by omega) (by omega), u2 218 _ (by omega), u2 219 _ (by omega)]
  exact w3 i i0 i1
theorem zRm.of {M P M1 P1 : zM} (h : zRm M P) (u1 : ∀ r y, 53 ≤ r → r ≤ 64 → M1 r y = M r y) (u2 : ∀ r y, 217 ≤ r → r ≤ 219 → P1 r y = P r y) (u3 : P1 178 63 = P 178 63) : zRm M1 P1 := by
  unfold zRm
  rw [u3]
  rcases h with ⟨h1, h2⟩ | ⟨h1, Q, h2, h3, h4⟩
  · exact .inl ⟨h1, fun a a0 a1 => (h2 a a0 a1).of ⟨a0, a1⟩ (fun r y r0 r1 => u1 r y (by omega) (by omega)) (fun r y hr => u2 r y (by omega) (by omega))⟩
  · exact .inr ⟨h1, Q, h2, h3, fun a a0 a1 => (h4 a a0 a1).of ⟨a0, a1⟩ (fun r y r0 r1 => u1 r y (by omega) (by omega)) (fun _ _ _ => rfl)⟩
theorem zCd_w {M : zM} (r0 : zPC M) (n m : Nat) {a : Int} (ha : 0 ≤ a ∧ a ≤ 2) : zCd M (zKs, n, m) (53 + 4 * a) := by
  have : a = 0 ∨ a = 1 ∨ a = 2 := by omega
  rcases this with rfl | rfl | rfl
  · unfold zCd
    simp only [Int.reduceMul, Int.reduceAdd]
    exact ⟨by omega, zk_53 n m, zk_54 n m, zk_55 n m, zk_56 n m, zp_53_1 r0, zp_53_2 r0, zp_53_3 r0⟩
  · unfold zCd
    simp only [Int.reduceMul, Int.reduceAdd]
    exact ⟨by omega, zk_57 n m, zk_58 n m, zk_59 n m, zk_60 n m, zp_57_1 r0, zp_57_2 r0, zp_57_3 r0⟩
  · unfold zCd
    simp only [Int.reduceMul, Int.reduceAdd]
    exact ⟨by omega, zk_61 n m, zk_62 n m, zk_63 n m, zk_64 n m, zp_61_1 r0, zp_61_2 r0, zp_61_3 r0⟩
theorem zfc.trans {M M1 M2 : zM} (h1 : zfc M M1) (h2 : zfc M1 M2) : zfc M M2 := fun r y hr => (h2 r y hr).trans (h1 r y hr)
theorem zfp.trans {M M1 M2 : zM} (h1 : zfp M M1) (h2 : zfp M1 M2) : zfp M M2 := fun r y hr => (h2 r y hr).trans (h1 r y hr)
theorem zfc.pc {M M1 : zM} (h : zfc M M1) (r0 : zPC M) : zPC M1 := zPC_t (fun r y => decide (53 ≤ r ∧ r ≤ 64) && !decide ((r = 53 ∨ r = 57 ∨ r = 61) ∧ y ≠ 0)) (by decide +kernel) r0 (fun r y hr => h r y (by simp at hr; omega))
theorem zfp.pr {P P1 : zM} (h : zfp P P1) (r1 : zPR P) : zPR P1 := zPR_t (fun r y => decide ((r = 178 ∧ y = 63) ∨ (217 ≤ r ∧ r ≤ 219))) (by decide +kernel) r1 (fun r y hr => h r y (by simp at hr; omega))
theorem zWA.go {M P M1 P1 : zM} {a v : Int} (h : zWA M P) (ha : 0 ≤ a ∧ a ≤ 2) (w : zW1 (53 + 4 * a) a M P M1 P1 v) : zWA M1 P1 := fun a' a0 a1 => by
  obtain ⟨w1, w2, w3, w4⟩ := w
  by_cases e : a' = a
  · rw [e]; exact w1
  · refine (h a' a0 a1).of ⟨a0, a1⟩ (fun r y r0 r1 => w3 r y (by omega)) (fun r y hr => w4 r y ⟨by omega, by omega, by omega⟩)
theorem e11R {M P : zM} (n m : Nat) {a k u : Int} (r0 : zPC M) (r1 : zPR P) (R : zRm M P) (ha : 0 ≤ a ∧ a ≤ 2) (hk : 0 ≤ k ∧ k ≤ 2) (hu : 1 ≤ u ∧ u ≤ 200) : ∃ M1 P1 v, zex 11 0 [] [(2, 53 + 4 * a), (0, k), (0, u), (9, 0), (9, 0), (9, 0)] M (zKs, n, m) = some ((0, v), M1, (zKs, n, m)) ∧ zex 184 0 [] [(2, 178), (0, a), (0, k), (0, u), (9, 0), (9, 0), (9, 0), (9, 0)] P (zKs, n, m) = some ((9, 0), P1, (zKs, n, m)) ∧ zRm M1 P1 ∧ zfc M M1 ∧ zfp P P1 ∧ (v = 0 ∨ v = 1) ∧ (v = 0 → P1 178 63 = 1) ∧ (P 178 63 = 1 → P1 178 63 = 1) ∧ (P 178 63 = 0 → v = 1 → P1 178 63 = 0) := by
  have gh : ∀ (M1 P1 : zM), zPR P1 → zWA M1 P1 → ∃ Q, zPR Q ∧ Q 178 63 = 0 ∧ zWA M1 Q := fun M1 P1 hp hw => ⟨zu P1 178 63 0, zPR_t (fun r y => decide (r = 178 ∧ y = 63)) (by decide +kernel) hp (fun r y hr => zu_nq (by simp at hr; omega)), zus, fun a' a0 a1 => (hw a' a0 a1).of ⟨a0, a1⟩ (fun _ _ _ _ => rfl) (fun r y hr => zu_nq (by omega))⟩
  rcases R with ⟨f, W⟩ | ⟨f, Q, q1, q2, W⟩
  · obtain ⟨M1, P1, v, a1, a2, a3⟩ := e11J (n := n) (m := m) (k := k) (u := u) (zCd_w r0 n m ha) r1 (W a ha.1 ha.2) ha hk hu f
    have W1 := W.go ha a3
    obtain ⟨b1, b2, b3, b4⟩ := a3
    refine ⟨M1, P1, v, a1, a2, ?_, fun r y hr => b3 r y (by omega), fun r y hr => b4 r y ⟨hr.1, by omega, by omega⟩, by omega, fun z => by omega, fun z => by omega, fun _ z => by omega⟩
    rcases b2 with ⟨-, b2⟩ | ⟨-, b2⟩
    · exact .inl ⟨b2, W1⟩
    · exact .inr ⟨b2, gh M1 P1 (b4.pr r1) W1⟩
  · obtain ⟨M1, P1, v, a1, a2, a3⟩ := e11J (n := n) (m := m) (k := k) (u := u) (zCd_w r0 n m ha) q1 (W a ha.1 ha.2) ha hk hu q2
    have W1 := W.go ha a3
    obtain ⟨b1, b2, b3, b4⟩ := a3
    exact ⟨M1, P, v, a1, by rw [q184_0, e184_0 (.inr f)], .inr ⟨f, gh M1 P1 (b4.pr q1) W1⟩, fun r y hr => b3 r y (by omega), fun _ _ _ => rfl, by omega, fun _ => f, fun _ => f, fun z => by omega⟩
/-- units on all three: what changes -/
def zfcu (M M1 : zM) : Prop := ∀ r y, ((r ≠ 47 ∨ (y ≠ 4 ∧ y ≠ 5)) ∧ (r < 53 ∨ 64 < r ∨ ((r = 53 ∨ r = 57 ∨ r = 61) ∧ y ≠ 0))) → M1 r y = M r y
def zfpu (P P1 : zM) : Prop := ∀ r y, ((r ≠ 178 ∨ (y ≠ 63 ∧ y ≠ 64)) ∧ (r < 217 ∨ 219 < r)) → P1 r y = P r y
theorem e90R {M P : zM} (n m : Nat) {l r s u : Int} (r0 : zPC M) (r1 : zPR P) (R : zRn M P) (hl : 0 ≤ l ∧ l ≤ 2) (hr : 0 ≤ r ∧ r ≤ 2) (hs : 0 ≤ s ∧ s ≤ 2) (hu : 1 ≤ u ∧ u ≤ 200) (hb : 0 ≤ M 47 5 ∧ M 47 5 ≤ 1000000000) : ∃ M1 P1, zex 90 0 [] [(2, 47), (0, l), (0, r), (0, s), (0, u), (9, 0)] M (zKs, n, m) = some ((9, 0), M1, (zKs, n, m)) ∧ zex 185 0 [] [(2, 178), (0, l), (0, r), (0, s), (0, u)] P (zKs, n, m) = some ((9, 0), P1, (zKs, n, m)) ∧ zRn M1 P1 ∧ M1 47 5 = M 47 5 + u ∧ zfcu M M1 ∧ zfpu P P1 := by
  obtain ⟨u1, u2, u3⟩ := R
  obtain ⟨M1, P1, v1, a1, a2, a3, a4, a5, a6, a7, a8, a9⟩ := e11R n m (a := 0) (k := l) (u := u) r0 r1 u3 (by omega) hl hu
  have r01 := a4.pc r0
  have r11 := a5.pr r1
  obtain ⟨M2, P2, v2, b1, b2, b3, b4, b5, b6, b7, b8, b9⟩ := e11R n m (a := 1) (k := r) (u := u) r01 r11 a3 (by omega) hr hu
  have r02 := b4.pc r01
  have r12 := b5.pr r11
  obtain ⟨M3, P3, v3, c1, c2, c3, c4, c5, c6, c7, c8, c9⟩ := e11R n m (a := 2) (k := s) (u := u) r02 r12 b3 (by omega) hs hu
  have r03 := c4.pc r02
  have r13 := c5.pr r12
  have f3 := a4.trans (b4.trans c4)
  have g3 := a5.trans (b5.trans c5)
  rw [show (53 : Int) + 4 * 0 = 53 by omega] at a1
  rw [show (53 : Int) + 4 * 1 = 57 by omega] at b1
  rw [show (53 : Int) + 4 * 2 = 61 by omega] at c1
  have t1 : zex 90 0 [] [(2, 47), (0, l), (0, r), (0, s), (0, u), (9, 0)] M (zKs, n, m) = zex 90 21 [(0, if v1 = 0 ∨ v2 = 0 then 0 else 1)] [(2, 47), (0, l), (0, r), (0, s), (0, u), (0, v1)] M2 (zKs, n, m) := by
    rw [q90_0, zg_pos ⟨zk_47 n m, by rw [zp_47_3 r0]; omega⟩, zp_47_3 r0, zg_pos ⟨by rw [zk_52], by omega, by rw [zk_52]; dsimp only; omega, by rw [zp_52_0 r0]; omega⟩, zp_52_0 r0, zg_pos (zk_53 n m), a1, zbI_ok, zg_pos ⟨zk_47 n m, by rw [zp_47_3 r01]; omega⟩, zp_47_3 r01, zg_pos ⟨by rw [zk_52], by omega, by rw [zk_52]; dsimp only; omega, by rw [zp_52_1 r01]; omega⟩, zp_52_1 r01, zg_pos (zk_57 n m), b1, zbI_ok]
    by_cases e2 : v2 = 0
    · rw [if_pos e2, if_pos (by omega), q90_20]
    · rw [if_neg e2]
      by_cases e1 : v1 = 0
      · rw [if_pos e1, if_pos (by omega), q90_20]
      · rw [if_neg e1, if_neg (by omega)]
  have t2 : ∀ w d, zex 90 21 [(0, w)] [(2, 47), (0, l), (0, r), (0, s), (0, u), (0, d)] M2 (zKs, n, m) = zex 90 35 [(0, if w = 0 ∨ v3 = 0 then 0 else 1)] [(2, 47), (0, l), (0, r), (0, s), (0, u), (0, w)] M3 (zKs, n, m) := fun w d => by
    rw [q90_21, zg_pos ⟨zk_47 n m, by rw [zp_47_3 r02]; omega⟩, zp_47_3 r02, zg_pos ⟨by rw [zk_52], by omega, by rw [zk_52]; dsimp only; omega, by rw [zp_52_2 r02]; omega⟩, zp_52_2 r02, zg_pos (zk_61 n m), c1, zbI_ok]
    by_cases e2 : v3 = 0
    · rw [if_pos e2, if_pos (by omega), q90_34]
    · rw [if_neg e2]
      by_cases e1 : w = 0
      · rw [if_pos e1, if_pos (by omega), q90_34]
      · rw [if_neg e1, if_neg (by omega)]
  have m4 : M3 47 4 = M 47 4 := f3 _ _ (by omega)
  have m5 : M3 47 5 = M 47 5 := f3 _ _ (by omega)
  have t4 : ∀ w d, (w = 0 ∨ w = 1) → zex 90 45 [(0, w), (2, 47)] [(2, 47), (0, l), (0, r), (0, s), (0, u), (0, d)] M3 (zKs, n, m) = some ((9, 0), zu (zu M3 47 4 w) 47 5 (M 47 5 + u), (zKs, n, m)) := fun w d hw => by
    rw [q90_45, zg_pos ⟨zk_47 n m, hw⟩, zg_pos (zk_47 n m), zu_nq (by omega), m5, zg_pos (by unfold zI; omega), zg_pos (zk_47 n m)]
  have t3 : ∀ w d, zex 90 35 [(0, w)] [(2, 47), (0, l), (0, r), (0, s), (0, u), (0, d)] M3 (zKs, n, m) = some ((9, 0), zu (zu M3 47 4 (if M 47 4 = 0 ∧ w ≠ 0 then 0 else 1)) 47 5 (M 47 5 + u), (zKs, n, m)) := fun w d => by
    rw [q90_35, zg_pos (zk_47 n m), m4]
    by_cases e1 : M 47 4 = 0
    · rw [if_pos e1]
      by_cases e2 : w = 0
      · rw [if_pos e2, if_neg (fun z => z.2 e2), q90_42, t4 _ _ (.inr rfl)]
      · rw [if_neg e2, if_pos ⟨e1, e2⟩, t4 _ _ (.inl rfl)]
    · rw [if_neg e1, if_neg (fun z => e1 z.1), q90_42, t4 _ _ (.inr rfl)]
  have p64 : P3 178 64 = P 178 64 := g3 _ _ (by omega)
  have q : zex 185 0 [] [(2, 178), (0, l), (0, r), (0, s), (0, u)] P (zKs, n, m) = some ((9, 0), zu P3 178 64 (P 178 64 + u), (zKs, n, m)) := by
    rw [q185_0, zg_pos (zk_178 n m), a2, zbN_ok, zg_pos (zk_178 n m), b2, zbN_ok, zg_pos (zk_178 n m), c2, zbN_ok, zg_pos (zk_178 n m), p64, zg_pos (by unfold zI; omega), zg_pos (zk_178 n m)]
  refine ⟨_, _, t1.trans ((t2 _ _).trans (t3 _ _)), q, ⟨by rw [zus, zus, u1], ?_, c3.of (fun r y _ _ => by rw [zu_nq (by omega), zu_nq (by omega)]) (fun r y _ _ => zu_nq (by omega)) (zu_nq (by omega))⟩, zus, fun r y hr => ?_, fun r y hr => ?_⟩
  · rw [zu_nq (by omega), zus, zu_nq (by omega)]
    by_cases e0 : P 178 63 = 1
    · rw [if_neg (fun z => by omega)]
      exact (c8 (b8 (a8 e0))).symm
    · have e1 : P 178 63 = 0 := by
        rcases u3 with ⟨z, -⟩ | ⟨z, -⟩
        · exact z
        · exact absurd z e0
      by_cases w1 : v1 = 1
      · have k1 := a9 e1 w1
        by_cases w2 : v2 = 1
        · have k2 := b9 k1 w2
          by_cases w3 : v3 = 1
          · rw [if_neg (c := v1 = 0 ∨ v2 = 0) (by omega), if_neg (c := (1 : Int) = 0 ∨ v3 = 0) (by omega), if_pos ⟨by omega, by omega⟩, c9 k2 w3]
          · rw [if_pos (c := (if v1 = 0 ∨ v2 = 0 then (0 : Int) else 1) = 0 ∨ v3 = 0) (by omega), if_neg (fun z => z.2 rfl), c7 (by omega)]
        · rw [if_pos (c := v1 = 0 ∨ v2 = 0) (by omega), if_pos (c := (0 : Int) = 0 ∨ v3 = 0) (by omega), if_neg (fun z => z.2 rfl), c8 (b7 (by omega))]
      · rw [if_pos (c := v1 = 0 ∨ v2 = 0) (by omega), if_pos (c := (0 : Int) = 0 ∨ v3 = 0) (by omega), if_neg (fun z => z.2 rfl), c8 (b8 (a7 (by omega)))]
  · rw [zu_nq (by omega), zu_nq (by omega), f3 r y (by omega)]
  · rw [zu_nq (by omega), g3 r y (by omega)]
