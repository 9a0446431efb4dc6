/-! THE REFERENCE'S RUNS: falls -/
/-- slips that are noted: how many; axle, segment, unit of each -/
abbrev zW : Type := Int × (Int → Int) × (Int → Int) × (Int → Int)
def zwa (w : zW) (a s u : Int) : zW := (w.1 + 1, fun i => if i = w.1 then a else w.2.1 i, fun i => if i = w.1 then s else w.2.2.1 i, fun i => if i = w.1 then u else w.2.2.2 i)
abbrev zslc (m l wn p g : Int → Int) (hs a : Int) : Prop := hs ≠ 0 ∧ p a < m a ∧ g a + 1 = l (40 * a + p a) ∧ wn (40 * a + p a) = 1 ∧ p a + 1 < m a
def zkw (m l wn p g : Int → Int) (hs u : Int) (s : (Int → Int) × zW) (a : Int) : (Int → Int) × zW := if zslc m l wn p g hs a then (fun i => if i = 40 * a + p a + 1 then 2 else s.1 i, zwa s.2 a (p a) u) else s
def zWR (P : zM) (w : zW) : Prop := P 178 58 = w.1 ∧ ∀ i, 0 ≤ i → i < w.1 → i < 20 → P 198 i = w.2.1 i ∧ P 199 i = w.2.2.1 i ∧ P 200 i = w.2.2.2 i
def zKR (P : zM) (s : (Int → Int) × zW) : Prop := (∀ i, 0 ≤ i → i < 120 → P 212 i = s.1 i) ∧ zWR P s.2
/-- the cords of the reference -/
def zCR (P : zM) (m l wn : Int → Int) : Prop := (∀ a, 0 ≤ a → a ≤ 2 → P 179 a = m a ∧ 0 ≤ m a ∧ m a ≤ 40) ∧ ∀ i, 0 ≤ i → i < 120 → P 181 i = l i ∧ P 182 i = wn i
theorem e165 {P : zM} {n m : Nat} {a x : Int} (r1 : zPR P) (ha : 0 ≤ a ∧ a ≤ 2) (hx : 0 ≤ x ∧ x < 119) (hc : 0 ≤ P 178 58 ∧ P 178 58 ≤ 1000000) : ∃ P', zex 165 0 [] [(2, 178), (0, a), (0, x)] P (zKs, n, m) = some ((9, 0), P', (zKs, n, m)) ∧ P' 178 58 = P 178 58 + 1 ∧ P' 212 (x + 1) = 2 ∧ (P 178 58 < 20 → P' 198 (P 178 58) = a ∧ P' 199 (P 178 58) = x - 40 * a ∧ P' 200 (P 178 58) = P 178 57) ∧ ∀ r y, ((r ≠ 178 ∧ r ≠ 212 ∧ (r < 198 ∨ 200 < r)) ∨ (r = 178 ∧ y ≠ 58) ∨ (r = 212 ∧ y ≠ x + 1) ∨ (198 ≤ r ∧ r ≤ 200 ∧ y ≠ P 178 58)) → P' r y = P r y := by
  by_cases hf : P 178 58 < 20
  · refine ⟨zu (zu (zu (zu (zu P 212 (x + 1) 2) 198 (P 178 58) a) 199 (P 178 58) (x - 40 * a)) 200 (P 178 58) (P 178 57)) 178 58 (P 178 58 + 1), ?_, zus, ?_, fun _ => ?_, fun r y hr => ?_⟩
    · have hf2 : ¬ 20 ≤ P 178 58 := by omega
      simp (disch := omega) only [q165_0, q165_7, q165_17, q165_27, q165_34, q165_40, hf2, zk_178, zk_198, zk_199, zk_200, zk_212, zp_178_48 r1, zp_178_34 r1, zp_178_35 r1, zp_178_36 r1, zun, zg_pos, zI, ↓reduceIte, Int.reduceEq, Int.reduceLE, Int.reduceLT, Int.reduceAdd, Int.reduceSub, Int.reduceMul, Int.reduceNeg, zg_T, zbI_ok, zbL_ok, zbN_ok, zite1, zite2, zite3, zem, Int.cast_ofNat_Int, and_self, and_true, true_and, or_true, true_or, or_self, ite_not, if_true, if_false, not_true_eq_false, not_false_eq_true]
    · rw [zun (by omega), zun (by omega), zun (by omega), zun (by omega), zus]
    · simp (disch := omega) only [zun, zus]
      exact ⟨trivial, trivial, trivial⟩
    · by_cases e1 : r = 178
      · rw [zun2 (by omega), zun (by omega), zun (by omega), zun (by omega), zun (by omega)]
      · rw [zun e1]
        by_cases e2 : 198 ≤ r ∧ r ≤ 200
        · rw [zun2 (by omega), zun2 (by omega), zun2 (by omega), zun (by omega)]
        · rw [zun (by omega), zun (by omega), zun (by omega)]
          by_cases e3 : r = 212
          · rw [zun2 (by omega)]
          · rw [zun e3]
  · refine ⟨zu (zu P 212 (x + 1) 2) 178 58 (P 178 58 + 1), ?_, zus, ?_, fun c => absurd c hf, fun r y hr => ?_⟩
    · have hf2 : 20 ≤ P 178 58 := by omega
      simp (disch := omega) only [q165_0, q165_7, q165_34, q165_40, hf2, zk_178, zk_212, zp_178_48 r1, zun, zg_pos, zI, ↓reduceIte, Int.reduceEq, Int.reduceLE, Int.reduceLT, Int.reduceAdd, Int.reduceSub, Int.reduceMul, Int.reduceNeg, zg_T, zbI_ok, zbL_ok, zbN_ok, zite1, zite2, zite3, zem, Int.cast_ofNat_Int, and_self, and_true, true_and, or_true, true_or, or_self, ite_not, if_true, if_false, not_true_eq_false, not_false_eq_true]
    · rw [zun (by omega), zus]
    · by_cases e1 : r = 178
      · rw [zun2 (by omega), zun (by omega)]
      · rw [zun e1]
        by_cases e3 : r = 212
        · rw [zun2 (by omega)]
        · rw [zun e3]
theorem zWR_app {P P' : zM} {w : zW} {a s : Int} (h : zWR P w) (h1 : P' 178 58 = P 178 58 + 1) (h2 : P 178 58 < 20 → P' 198 (P 178 58) = a ∧ P' 199 (P 178 58) = s ∧ P' 200 (P 178 58) = P 178 57) (h3 : ∀ r y, 198 ≤ r → r ≤ 200 → y ≠ P 178 58 → P' r y = P r y) : zWR P' (zwa w a s (P 178 57)) := by
  obtain ⟨w1, w3⟩ := h
  refine ⟨by rw [h1, w1]; rfl, fun i i0 i1 i2 => ?_⟩
  have i1' : i < w.1 + 1 := i1
  unfold zwa
  dsimp only
  by_cases e : i = w.1
  · rw [if_pos e, if_pos e, if_pos e]
    have := h2 (by omega)
    rw [w1, ← e] at this
    exact this
  · rw [if_neg e, if_neg e, if_neg e, h3 _ _ (by omega) (by omega) (by omega), h3 _ _ (by omega) (by omega) (by omega), h3 _ _ (by omega) (by omega) (by omega)]
    exact w3 i i0 (by omega) i2
theorem zWR.of {P P' : zM} {w : zW} (h : zWR P w) (h1 : P' 178 58 = P 178 58) (h3 : ∀ r y, 198 ≤ r → r ≤ 200 → P' r y = P r y) : zWR P' w := by
  obtain ⟨w1, w3⟩ := h
  refine ⟨by rw [h1, w1], fun i i0 i1 i2 => ?_⟩
  rw [h3 _ _ (by omega) (by omega), h3 _ _ (by omega) (by omega), h3 _ _ (by omega) (by omega)]
  exact w3 i i0 i1 i2
/-- falls at one axle -/
theorem e164_a {P : zM} {n m : Nat} {c l wn p g : Int → Int} {hs a : Int} {d3 : zV} {s : (Int → Int) × zW} (r1 : zPR P) (hC : zCR P c l wn) (ha : 0 ≤ a ∧ a ≤ 2) (hp : P 213 a = p a ∧ 0 ≤ p a ∧ p a ≤ c a) (hg : P 214 a = g a ∧ 0 ≤ g a ∧ g a ≤ 200) (hk : zKR P s) (hw : hs = 0 ∨ (0 ≤ s.2.1 ∧ s.2.1 ≤ 1000000)) : ∃ P' d3', zex 164 8 [] [(2, 178), (0, hs), (0, a), d3] P (zKs, n, m) = zex 164 8 [] [(2, 178), (0, hs), (0, a + 1), d3'] P' (zKs, n, m) ∧ P' 215 a = ztn c s.1 p a ∧ P' 213 a = zsa c l p g a ∧ P' 214 a = zsg c l p g a ∧ zKR P' (zkw c l wn p g hs (P 178 57) s a) ∧
    ∀ r y, ((r < 178 ∨ (r = 178 ∧ y ≠ 58) ∨ (178 < r ∧ r < 198) ∨ (200 < r ∧ r < 212) ∨ 215 < r) ∨ (213 ≤ r ∧ r ≤ 215 ∧ y ≠ a) ∨ (hs = 0 ∧ r < 213)) → P' r y = P r y := by
  obtain ⟨c1, c2, c3⟩ := hC.1 a ha.1 ha.2
  obtain ⟨p1, p2, p3⟩ := hp
  obtain ⟨g1, g2, g3⟩ := hg
  obtain ⟨k1, k2⟩ := hk
  by_cases e : p a < c a
  · have i0 : 0 ≤ 40 * a + p a ∧ 40 * a + p a < 120 := by omega
    obtain ⟨l1, l2⟩ := hC.2 _ i0.1 i0.2
    have k3 := k1 _ i0.1 i0.2
    have ne : ¬ c a ≤ p a := by omega
    -- what the unit turns
    have s1 : zex 164 8 [] [(2, 178), (0, hs), (0, a), d3] P (zKs, n, m) = zex 164 62 [] [(2, 178), (0, hs), (0, a), (0, 40 * a + p a)] (zu (zu (zu P 215 a 0) 215 a (ztn c s.1 p a)) 214 a (g a + 1)) (zKs, n, m) := by
      rw [q164_8, if_neg (by omega)]
      unfold ztn
      rw [if_pos e]
      by_cases f1 : s.1 (40 * a + p a) = 0
      · simp (disch := omega) only [q164_16, q164_53, q164_54, f1, k3, c1, p1, g1, ne, zk_178, zk_179, zk_212, zk_213, zk_214, zk_215, zp_178_1 r1, zp_178_48 r1, zp_178_49 r1, zp_178_50 r1, zp_178_51 r1, zun, zg_pos, zI, ↓reduceIte, Int.reduceEq, Int.reduceLE, Int.reduceLT, Int.reduceAdd, Int.reduceSub, Int.reduceMul, Int.reduceNeg, zg_T, zbI_ok, zbL_ok, zbN_ok, zite1, zite2, zite3, zem, Int.cast_ofNat_Int, and_self, and_true, true_and, or_true, true_or, or_self, ite_not, if_true, if_false, not_true_eq_false, not_false_eq_true]
      · by_cases f2 : s.1 (40 * a + p a) = 1
        · simp (disch := omega) only [q164_16, q164_53, q164_54, f2, k3, c1, p1, g1, ne, zk_178, zk_179, zk_212, zk_213, zk_214, zk_215, zp_178_1 r1, zp_178_48 r1, zp_178_49 r1, zp_178_50 r1, zp_178_51 r1, zun, zg_pos, zI, ↓reduceIte, Int.reduceEq, Int.reduceLE, Int.reduceLT, Int.reduceAdd, Int.reduceSub, Int.reduceMul, Int.reduceNeg, zg_T, zbI_ok, zbL_ok, zbN_ok, zite1, zite2, zite3, zem, Int.cast_ofNat_Int, and_self, and_true, true_and, or_true, true_or, or_self, ite_not, if_true, if_false, not_true_eq_false, not_false_eq_true]
        · simp (disch := omega) only [q164_16, q164_53, q164_54, f1, f2, k3, c1, p1, g1, ne, zk_178, zk_179, zk_212, zk_213, zk_214, zk_215, zp_178_1 r1, zp_178_48 r1, zp_178_49 r1, zp_178_50 r1, zp_178_51 r1, zun, zg_pos, zI, ↓reduceIte, Int.reduceEq, Int.reduceLE, Int.reduceLT, Int.reduceAdd, Int.reduceSub, Int.reduceMul, Int.reduceNeg, zg_T, zbI_ok, zbL_ok, zbN_ok, zite1, zite2, zite3, zem, Int.cast_ofNat_Int, and_self, and_true, true_and, or_true, true_or, or_self, ite_not, if_true, if_false, not_true_eq_false, not_false_eq_true]
    have q0 : ∀ r y, ((r ≠ 214 ∧ r ≠ 215) ∨ y ≠ a) → zu (zu (zu P 215 a 0) 215 a (ztn c s.1 p a)) 214 a (g a + 1) r y = P r y := fun r y hr => by
      by_cases e1 : y = a
      · rw [zun (by omega), zun (by omega), zun (by omega)]
      · rw [zun2 e1, zun2 e1, zun2 e1]
    have q1 : zu (zu (zu P 215 a 0) 215 a (ztn c s.1 p a)) 214 a (g a + 1) 215 a = ztn c s.1 p a := by rw [zun (by omega), zus]
    have q2 : zu (zu (zu P 215 a 0) 215 a (ztn c s.1 p a)) 214 a (g a + 1) 214 a = g a + 1 := zus
    generalize zu (zu (zu P 215 a 0) 215 a (ztn c s.1 p a)) 214 a (g a + 1) = Q at s1 q0 q1 q2
    have r2 : zPR Q := zPR_t (fun r y => decide (214 ≤ r ∧ r ≤ 215)) (by decide +kernel) r1 (fun r y hr => q0 r y (by simp at hr; omega))
    have s2 : zex 164 62 [] [(2, 178), (0, hs), (0, a), (0, 40 * a + p a)] Q (zKs, n, m) = if g a + 1 = l (40 * a + p a) then (if zslc c l wn p g hs a then zbN (zex 165 0 [] [(2, 178), (0, a), (0, 40 * a + p a)] Q (zKs, n, m)) (fun M1 X1 => zex 164 94 [] [(2, 178), (0, hs), (0, a), (0, 40 * a + p a)] M1 X1) else zex 164 94 [] [(2, 178), (0, hs), (0, a), (0, 40 * a + p a)] Q (zKs, n, m)) else zex 164 107 [] [(2, 178), (0, hs), (0, a), (0, 40 * a + p a)] Q (zKs, n, m) := by
      have v1 : Q 181 (40 * a + p a) = l (40 * a + p a) := by rw [q0 _ _ (by omega), l1]
      have v2 : Q 182 (40 * a + p a) = wn (40 * a + p a) := by rw [q0 _ _ (by omega), l2]
      have v3 : Q 213 a = p a := by rw [q0 _ _ (by omega), p1]
      have v4 : Q 179 a = c a := by rw [q0 _ _ (by omega), c1]
      rw [q164_62]
      simp (disch := omega) only [zk_178, zk_181, zk_214, zp_178_3 r2, zp_178_50 r2, q2, v1, zg_pos, ↓reduceIte, Int.reduceEq, Int.reduceLE, Int.reduceLT, Int.reduceAdd, Int.reduceSub, Int.reduceMul, Int.reduceNeg, zg_T, zbI_ok, zbL_ok, zbN_ok, zite1, zite2, zite3, zem, Int.cast_ofNat_Int, and_self, and_true, true_and, or_true, true_or, or_self, ite_not, if_true, if_false, not_true_eq_false, not_false_eq_true]
      by_cases f1 : g a + 1 = l (40 * a + p a)
      · rw [if_pos f1, if_pos f1]
        by_cases f2 : hs = 0
        · rw [if_pos f2, if_neg (fun x => x.1 f2)]
        · rw [if_neg f2]
          simp (disch := omega) only [zk_182, zp_178_4 r2, v2, zg_pos, ↓reduceIte, Int.reduceEq, Int.reduceLE, Int.reduceLT, Int.reduceAdd, Int.reduceSub, Int.reduceMul, Int.reduceNeg, zg_T, zbI_ok, zbL_ok, zbN_ok, zite1, zite2, zite3, zem, Int.cast_ofNat_Int, and_self, and_true, true_and, or_true, true_or, or_self, ite_not, if_true, if_false, not_true_eq_false, not_false_eq_true]
          by_cases f3 : wn (40 * a + p a) = 1
          · rw [if_pos f3]
            simp (disch := omega) only [zk_179, zk_213, zp_178_1 r2, zp_178_49 r2, v3, v4, zg_pos, zI, ↓reduceIte, Int.reduceEq, Int.reduceLE, Int.reduceLT, Int.reduceAdd, Int.reduceSub, Int.reduceMul, Int.reduceNeg, zg_T, zbI_ok, zbL_ok, zbN_ok, zite1, zite2, zite3, zem, Int.cast_ofNat_Int, and_self, and_true, true_and, or_true, true_or, or_self, ite_not, if_true, if_false, not_true_eq_false, not_false_eq_true]
            by_cases f4 : c a ≤ p a + 1
            · rw [if_pos f4, if_neg (fun x => by omega)]
            · rw [if_neg f4, if_pos ⟨f2, e, f1, f3, by omega⟩]
          · rw [if_neg f3, if_neg (fun x => f3 x.2.2.2.1)]
      · rw [if_neg f1, if_neg f1]
    by_cases f1 : g a + 1 = l (40 * a + p a)
    · rw [if_pos f1] at s2
      -- the segment ends
      have fin : ∀ (R : zM), zPR R → R 213 a = p a → zex 164 94 [] [(2, 178), (0, hs), (0, a), (0, 40 * a + p a)] R (zKs, n, m) = zex 164 8 [] [(2, 178), (0, hs), (0, a + 1), (0, 40 * a + p a)] (zu (zu R 213 a (p a + 1)) 214 a 0) (zKs, n, m) := fun R hR hv => by
        simp (disch := omega) only [q164_94, q164_102, q164_107, zk_178, zk_213, zk_214, zp_178_49 hR, zp_178_50 hR, hv, zun, zg_pos, zI, ↓reduceIte, Int.reduceEq, Int.reduceLE, Int.reduceLT, Int.reduceAdd, Int.reduceSub, Int.reduceMul, Int.reduceNeg, zg_T, zbI_ok, zbL_ok, zbN_ok, zite1, zite2, zite3, zem, Int.cast_ofNat_Int, and_self, and_true, true_and, or_true, true_or, or_self, ite_not, if_true, if_false, not_true_eq_false, not_false_eq_true]
      have fz : zsa c l p g a = p a + 1 ∧ zsg c l p g a = 0 := by
        unfold zsa zsg
        rw [if_pos ⟨e, f1⟩, if_pos e, if_pos f1]
        exact ⟨rfl, rfl⟩
      by_cases f2 : zslc c l wn p g hs a
      · rw [if_pos f2] at s2
        obtain ⟨w1, w3⟩ := id k2
        have w2 := hw.resolve_left f2.1
        obtain ⟨R, t1, t2, t3, t4, t5⟩ := e165 (n := n) (m := m) (a := a) (x := 40 * a + p a) r2 ha (by have := f2.2.2.2.2; omega) (by rw [q0 _ _ (by omega), w1]; omega)
        rw [q0 178 58 (by omega)] at t2 t4 t5
        rw [q0 178 57 (by omega)] at t4
        rw [t1, zbN_ok] at s2
        have r3 : zPR R := zPR_t (fun r y => decide (r = 212 ∨ (198 ≤ r ∧ r ≤ 200)) || (decide (r = 178) && decide (y = 58))) (by decide +kernel) r2 (fun r y hr => t5 r y (by simp at hr; omega))
        have t6 := fin R r3 (by rw [t5 _ _ (by omega), q0 _ _ (by omega), p1])
        have t7 : ∀ r y, ((r ≠ 213 ∧ r ≠ 214) ∨ y ≠ a) → zu (zu R 213 a (p a + 1)) 214 a 0 r y = R r y := fun r y hr => by
          by_cases e1 : y = a
          · rw [zun (by omega), zun (by omega)]
          · rw [zun2 e1, zun2 e1]
        refine ⟨_, _, s1.trans (s2.trans t6), ?_, ?_, ?_, ?_, fun r y hr => ?_⟩
        · rw [t7 _ _ (by omega), t5 _ _ (by omega), q1]
        · rw [fz.1, zun (by omega), zus]
        · rw [fz.2, zus]
        · unfold zkw
          rw [if_pos f2]
          refine ⟨fun i i0 i1 => ?_, ?_⟩
          · dsimp only
            rw [t7 _ _ (by omega)]
            by_cases e1 : i = 40 * a + p a + 1
            · rw [if_pos e1, e1, t3]
            · rw [if_neg e1, t5 _ _ (by omega), q0 _ _ (by omega)]
              exact k1 i i0 i1
          · refine zWR_app k2 (by rw [t7 _ _ (by omega), t2]) (fun hf => ?_) (fun r y h1 h2 h3 => by rw [t7 _ _ (by omega), t5 _ _ (by omega), q0 _ _ (by omega)])
            obtain ⟨x1, x2, x3⟩ := t4 hf
            rw [t7 _ _ (by omega), t7 _ _ (by omega), t7 _ _ (by omega), x1, x2, x3]
            exact ⟨rfl, by omega, rfl⟩
        · have h0 := f2.1
          have e5 : (r = 178 ∧ y = 58) ∨ r = 212 ∨ (198 ≤ r ∧ r ≤ 200) ∨ ¬ ((r = 178 ∧ y = 58) ∨ r = 212 ∨ (198 ≤ r ∧ r ≤ 200)) := by omega
          rw [t7 _ _ (by omega), t5 _ _ (by omega), q0 _ _ (by omega)]
      · rw [if_neg f2] at s2
        have t6 := fin Q r2 (by rw [q0 _ _ (by omega), p1])
        have t7 : ∀ r y, ((r ≠ 213 ∧ r ≠ 214) ∨ y ≠ a) → zu (zu Q 213 a (p a + 1)) 214 a 0 r y = Q r y := fun r y hr => by
          by_cases e1 : y = a
          · rw [zun (by omega), zun (by omega)]
          · rw [zun2 e1, zun2 e1]
        refine ⟨_, _, s1.trans (s2.trans t6), ?_, ?_, ?_, ?_, fun r y hr => ?_⟩
        · rw [t7 _ _ (by omega), q1]
        · rw [fz.1, zun (by omega), zus]
        · rw [fz.2, zus]
        · unfold zkw
          rw [if_neg f2]
          exact ⟨fun i i0 i1 => by rw [t7 _ _ (by omega), q0 _ _ (by omega)]; exact k1 i i0 i1, k2.of (by rw [t7 _ _ (by omega), q0 _ _ (by omega)]) (fun r y h1 h2 => by rw [t7 _ _ (by omega), q0 _ _ (by omega)])⟩
        · rw [t7 _ _ (by omega), q0 _ _ (by omega)]
    · rw [if_neg f1] at s2
      have f2 : ¬ zslc c l wn p g hs a := fun x => f1 x.2.2.1
      have t6 : zex 164 107 [] [(2, 178), (0, hs), (0, a), (0, 40 * a + p a)] Q (zKs, n, m) = zex 164 8 [] [(2, 178), (0, hs), (0, a + 1), (0, 40 * a + p a)] Q (zKs, n, m) := by
        rw [q164_107, zg_pos (by unfold zI; omega)]
      refine ⟨_, _, s1.trans (s2.trans t6), q1, ?_, ?_, ?_, fun r y hr => q0 _ _ (by omega)⟩
      · unfold zsa
        rw [if_neg (fun x => f1 x.2), q0 _ _ (by omega), p1]
      · unfold zsg
        rw [if_pos e, if_neg f1, q2]
      · unfold zkw
        rw [if_neg f2]
        exact ⟨fun i i0 i1 => by rw [q0 _ _ (by omega)]; exact k1 i i0 i1, k2.of (q0 _ _ (by omega)) (fun r y h1 h2 => q0 _ _ (by omega))⟩
  · have ne : c a ≤ p a := by omega
    have f2 : ¬ zslc c l wn p g hs a := fun x => e x.2.1
    refine ⟨zu P 215 a 0, d3, ?_, ?_, ?_, ?_, ?_, fun r y hr => ?_⟩
    · rw [q164_8, if_neg (by omega)]
      simp (disch := omega) only [q164_16, q164_107, c1, p1, ne, zk_178, zk_179, zk_213, zk_215, zp_178_1 r1, zp_178_49 r1, zp_178_51 r1, zun, zg_pos, zI, ↓reduceIte, Int.reduceEq, Int.reduceLE, Int.reduceLT, Int.reduceAdd, Int.reduceSub, Int.reduceMul, Int.reduceNeg, zg_T, zbI_ok, zbL_ok, zbN_ok, zite1, zite2, zite3, zem, Int.cast_ofNat_Int, and_self, and_true, true_and, or_true, true_or, or_self, ite_not, if_true, if_false, not_true_eq_false, not_false_eq_true]
    · unfold ztn
      rw [if_neg e, zus]
    · unfold zsa
      rw [if_neg (fun x => e x.1), zun (by omega), p1]
    · unfold zsg
      rw [if_neg e, zun (by omega), g1]
    · unfold zkw
      rw [if_neg f2]
      exact ⟨fun i i0 i1 => by rw [zun (by omega)]; exact k1 i i0 i1, k2.of (zun (by omega)) (fun r y h1 h2 => zun (by omega))⟩
    · by_cases e1 : r = 215
      · exact zun2 (by omega)
      · exact zun e1
