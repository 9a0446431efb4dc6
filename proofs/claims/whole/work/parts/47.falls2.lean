/-! THE REFERENCE'S RUNS: a whole unit -/
theorem e163 {d b : Int} {M : zM} {X : zX} (hd : 0 ≤ d ∧ d ≤ 15) : zex 163 0 [] [(0, d), (0, b), (9, 0), (9, 0), (9, 0), (9, 0), (9, 0), (9, 0)] M X = some ((0, if b = 0 then zhy d else zhx d), M, X) := by
  rcases (by omega : d = 0 ∨ d = 1 ∨ d = 2 ∨ d = 3 ∨ d = 4 ∨ d = 5 ∨ d = 6 ∨ d = 7 ∨ d = 8 ∨ d = 9 ∨ d = 10 ∨ d = 11 ∨ d = 12 ∨ d = 13 ∨ d = 14 ∨ d = 15) with rfl | rfl | rfl | rfl | rfl | rfl | rfl | rfl | rfl | rfl | rfl | rfl | rfl | rfl | rfl | rfl <;>
    (by_cases hb : b = 0 <;> simp (disch := omega) only [q163_0, q163_19, q163_35, q163_57, q163_75, q163_81, ztd_p, ztm_p, Int.reduceDiv, Int.reduceMod, hb, zg_pos, zI, ↓reduceIte, Int.reduceEq, Int.reduceLE, Int.reduceLT, Int.reduceAdd, Int.reduceSub, Int.reduceMul, Int.reduceNeg, zg_T, zbI_ok, zbL_ok, zbN_ok, zite1, zite2, zite3, zem, Int.cast_ofNat_Int, and_self, and_true, true_and, or_true, true_or, or_self, ite_not, if_true, if_false, not_true_eq_false, not_false_eq_true] <;> rfl)
/-- the reference holds a run's state -/
def zSR (P : zM) (k : Int → Int) (σ : zS) : Prop := (P 178 52 = σ.1.1 ∧ P 178 53 = σ.1.2.1 ∧ P 178 54 = σ.1.2.2.1 ∧ P 178 55 = σ.1.2.2.2 ∧ P 178 56 = σ.2.1) ∧ (∀ a, 0 ≤ a → a ≤ 2 → P 213 a = σ.2.2.1 a ∧ P 214 a = σ.2.2.2 a) ∧ ∀ i, 0 ≤ i → i < 120 → P 212 i = k i
theorem zkw_o {m l wn p g : Int → Int} {hs u : Int} {s : (Int → Int) × zW} {a b : Int} (hm : ∀ a, 0 ≤ a → a ≤ 2 → m a ≤ 40) (hp : ∀ a, 0 ≤ a → a ≤ 2 → 0 ≤ p a) (ha : 0 ≤ a ∧ a ≤ 2) (hb : 0 ≤ b ∧ b ≤ 2) (hab : a ≠ b) : ztn m (zkw m l wn p g hs u s a).1 p b = ztn m s.1 p b := by
  unfold ztn
  by_cases e : p b < m b
  · rw [if_pos e, if_pos e]
    have : (zkw m l wn p g hs u s a).1 (40 * b + p b) = s.1 (40 * b + p b) := by
      unfold zkw
      split
      · rename_i h
        have h1 := h.2.2.2.2
        have m1 := hm a ha.1 ha.2
        have m2 := hm b hb.1 hb.2
        have p1 := hp a ha.1 ha.2
        have p2 := hp b hb.1 hb.2
        exact if_neg (by omega)
      · rfl
    rw [this]
  · rw [if_neg e, if_neg e]
/-- the three axles -/
def zkw3 (m l wn p g : Int → Int) (hs u : Int) (s : (Int → Int) × zW) : (Int → Int) × zW := zkw m l wn p g hs u (zkw m l wn p g hs u (zkw m l wn p g hs u s 0) 1) 2
theorem zkw_le {m l wn p g : Int → Int} {hs u : Int} {s : (Int → Int) × zW} {a : Int} : s.2.1 ≤ (zkw m l wn p g hs u s a).2.1 ∧ (zkw m l wn p g hs u s a).2.1 ≤ s.2.1 + 1 := by
  unfold zkw zwa
  split
  · dsimp only; omega
  · omega
theorem zkw3_0 {m l wn p g : Int → Int} {u : Int} {s : (Int → Int) × zW} : zkw3 m l wn p g 0 u s = s := by
  unfold zkw3 zkw
  rw [if_neg (fun x => x.1 rfl), if_neg (fun x => x.1 rfl), if_neg (fun x => x.1 rfl)]
/-- what falls leaves as it was -/
def zFu (hs : Int) (P P' : zM) : Prop := ∀ r y, ((r < 178 ∨ (r = 178 ∧ (y < 52 ∨ 58 < y)) ∨ (178 < r ∧ r < 198) ∨ (200 < r ∧ r < 212) ∨ 215 < r) ∨ (hs = 0 ∧ ((r = 178 ∧ y = 58) ∨ (178 < r ∧ r < 213)))) → P' r y = P r y
theorem zFu.trans {hs : Int} {P P' P'' : zM} (h : zFu hs P P') (h' : zFu hs P' P'') : zFu hs P P'' := fun r y hr => (h' r y hr).trans (h r y hr)
theorem zFu.rfl {hs : Int} {P : zM} : zFu hs P P := fun _ _ _ => Eq.refl _
theorem e164 {P : zM} {n m : Nat} {c l wn k : Int → Int} {h hs u : Int} {σ : zS} {w : zW} (r1 : zPR P) (hC : zCR P c l wn) (hct : zCt c l h) (hh : P 178 5 = h) (hS : zSR P k σ) (hok : zSk c l h u σ) (hu : 0 ≤ u ∧ u ≤ 100000) (hw : zWR P w) (hwb : hs = 0 ∨ (0 ≤ w.1 ∧ w.1 ≤ 999990)) (hun : 0 ≤ P 178 57 ∧ P 178 57 ≤ 1000000) : ∃ P', zex 164 0 [] [(2, 178), (0, hs), (9, 0), (9, 0)] P (zKs, n, m) = some ((9, 0), P', (zKs, n, m)) ∧ zSR P' (zkw3 c l wn σ.2.2.1 σ.2.2.2 hs (P 178 57 + 1) (k, w)).1 (zsp c k l h σ) ∧ zWR P' (zkw3 c l wn σ.2.2.1 σ.2.2.2 hs (P 178 57 + 1) (k, w)).2 ∧ P' 178 57 = P 178 57 + 1 ∧ P' 215 2 = ztn c k σ.2.2.1 2 ∧ zFu hs P P' := by
  obtain ⟨⟨x1, x2, x3, x4, x5⟩, x6, x7⟩ := hS
  obtain ⟨⟨a1, a2, a3, a4⟩, a5, a6⟩ := hok
  obtain ⟨e1, e2⟩ := zh_le a3
  have hp : ∀ a, 0 ≤ a → a ≤ 2 → 0 ≤ σ.2.2.1 a := fun a h0 h2 => (a6 a h0 h2).1
  have hm : ∀ a, 0 ≤ a → a ≤ 2 → c a ≤ 40 := fun a h0 h2 => (hct.2 a h0 h2).2.1
  have hgall : ∀ a, 0 ≤ a → a ≤ 2 → 0 ≤ σ.2.2.2 a ∧ σ.2.2.2 a ≤ 200 := fun a h0 h2 => (a6 a h0 h2).2.2.1
  have q1 : zex 164 0 [] [(2, 178), (0, hs), (9, 0), (9, 0)] P (zKs, n, m) = zex 164 8 [] [(2, 178), (0, hs), (0, 0), (9, 0)] (zu P 178 57 (P 178 57 + 1)) (zKs, n, m) := by
    simp (disch := omega) only [q164_0, q164_6, zk_178, zg_pos, zI, ↓reduceIte, Int.reduceEq, Int.reduceLE, Int.reduceLT, Int.reduceAdd, Int.reduceSub, Int.reduceMul, Int.reduceNeg, zg_T, zbI_ok, zbL_ok, zbN_ok, zite1, zite2, zite3, zem, Int.cast_ofNat_Int, and_self, and_true, true_and, or_true, true_or, or_self, ite_not, if_true, if_false, not_true_eq_false, not_false_eq_true]
  have f0 : ∀ r y, (r ≠ 178 ∨ y ≠ 57) → zu P 178 57 (P 178 57 + 1) r y = P r y := fun r y hr => by
    by_cases e : r = 178
    · exact zun2 (by omega)
    · exact zun e
  have g0 : zu P 178 57 (P 178 57 + 1) 178 57 = P 178 57 + 1 := zus
  generalize zu P 178 57 (P 178 57 + 1) = Q at q1 f0 g0
  have rQ : zPR Q := zPR_t (fun r y => decide (r = 178) && decide (y = 57)) (by decide +kernel) r1 (fun r y hr => f0 r y (by simp at hr; omega))
  have C0 : ∀ (R : zM), (∀ r y, r = 179 ∨ r = 181 ∨ r = 182 → R r y = P r y) → zCR R c l wn := fun R hR => ⟨fun a h0 h2 => by rw [hR _ _ (by omega)]; exact hC.1 a h0 h2, fun i i0 i1 => by rw [hR _ _ (by omega), hR _ _ (by omega)]; exact hC.2 i i0 i1⟩
  have K0 : zKR Q (k, w) := ⟨fun i i0 i1 => by rw [f0 _ _ (by omega)]; exact x7 i i0 i1, hw.of (f0 _ _ (by omega)) (fun r y _ _ => f0 _ _ (by omega))⟩
  obtain ⟨Q1, d1, y1, y2, y3, y4, y5, y6⟩ := e164_a (n := n) (m := m) (hs := hs) (d3 := (9, 0)) (p := σ.2.2.1) (g := σ.2.2.2) rQ (C0 Q (fun r y _ => f0 _ _ (by omega))) (a := 0) (by omega) (by rw [f0 _ _ (by omega), (x6 0 (by omega) (by omega)).1]; exact ⟨rfl, (a6 0 (by omega) (by omega)).1, (a6 0 (by omega) (by omega)).2.1⟩) (by rw [f0 _ _ (by omega), (x6 0 (by omega) (by omega)).2]; exact ⟨rfl, hgall 0 (by omega) (by omega)⟩) K0 (by have : (k, w).2.1 = w.1 := rfl; omega)
  have w1 := zkw_le (m := c) (l := l) (wn := wn) (p := σ.2.2.1) (g := σ.2.2.2) (hs := hs) (u := Q 178 57) (s := (k, w)) (a := 0)
  have rQ1 : zPR Q1 := zPR_t (fun r y => decide (r = 178 ∧ y = 58) || decide (198 ≤ r ∧ r ≤ 200) || decide (212 ≤ r)) (by decide +kernel) rQ (fun r y hr => y6 r y (by simp at hr; omega))
  obtain ⟨Q2, d2, z1, z2, z3, z4, z5, z6⟩ := e164_a (n := n) (m := m) (hs := hs) (d3 := d1) (p := σ.2.2.1) (g := σ.2.2.2) rQ1 (C0 Q1 (fun r y _ => by rw [y6 _ _ (by omega), f0 _ _ (by omega)])) (a := 1) (by omega) (by rw [y6 _ _ (by omega), f0 _ _ (by omega), (x6 1 (by omega) (by omega)).1]; exact ⟨rfl, (a6 1 (by omega) (by omega)).1, (a6 1 (by omega) (by omega)).2.1⟩) (by rw [y6 _ _ (by omega), f0 _ _ (by omega), (x6 1 (by omega) (by omega)).2]; exact ⟨rfl, hgall 1 (by omega) (by omega)⟩) y5 (by have : (k, w).2.1 = w.1 := rfl; omega)
  have w2 := zkw_le (m := c) (l := l) (wn := wn) (p := σ.2.2.1) (g := σ.2.2.2) (hs := hs) (u := Q1 178 57) (s := zkw c l wn σ.2.2.1 σ.2.2.2 hs (Q 178 57) (k, w) 0) (a := 1)
  have rQ2 : zPR Q2 := zPR_t (fun r y => decide (r = 178 ∧ y = 58) || decide (198 ≤ r ∧ r ≤ 200) || decide (212 ≤ r)) (by decide +kernel) rQ1 (fun r y hr => z6 r y (by simp at hr; omega))
  obtain ⟨Q3, d3, v1, v2, v3, v4, v5, v6⟩ := e164_a (n := n) (m := m) (hs := hs) (d3 := d2) (p := σ.2.2.1) (g := σ.2.2.2) rQ2 (C0 Q2 (fun r y _ => by rw [z6 _ _ (by omega), y6 _ _ (by omega), f0 _ _ (by omega)])) (a := 2) (by omega) (by rw [z6 _ _ (by omega), y6 _ _ (by omega), f0 _ _ (by omega), (x6 2 (by omega) (by omega)).1]; exact ⟨rfl, (a6 2 (by omega) (by omega)).1, (a6 2 (by omega) (by omega)).2.1⟩) (by rw [z6 _ _ (by omega), y6 _ _ (by omega), f0 _ _ (by omega), (x6 2 (by omega) (by omega)).2]; exact ⟨rfl, hgall 2 (by omega) (by omega)⟩) z5 (by have : (k, w).2.1 = w.1 := rfl; omega)
  have rQ3 : zPR Q3 := zPR_t (fun r y => decide (r = 178 ∧ y = 58) || decide (198 ≤ r ∧ r ≤ 200) || decide (212 ≤ r)) (by decide +kernel) rQ2 (fun r y hr => v6 r y (by simp at hr; omega))
  simp only [Int.reduceAdd, Int.zero_add] at q1 y1 z1 v1
  rw [zkw_o hm hp (by omega) (by omega) (by omega)] at z2
  rw [zkw_o hm hp (by omega) (by omega) (by omega), zkw_o hm hp (by omega) (by omega) (by omega)] at v2
  rw [y6 178 57 (by omega)] at z5 v5
  rw [z6 178 57 (by omega), y6 178 57 (by omega), g0] at v5
  rw [g0] at z5
  have o3 : ∀ r y, (r < 178 ∨ (r = 178 ∧ y ≠ 57 ∧ y ≠ 58) ∨ (178 < r ∧ r < 198) ∨ (200 < r ∧ r < 212) ∨ 215 < r ∨ (hs = 0 ∧ ((r = 178 ∧ y = 58) ∨ (178 < r ∧ r < 213)))) → Q3 r y = P r y := fun r y hr => by
    rw [v6 _ _ (by omega), z6 _ _ (by omega), y6 _ _ (by omega), f0 _ _ (by omega)]
  have t0 : Q3 215 0 = ztn c k σ.2.2.1 0 := by rw [v6 _ _ (by omega), z6 _ _ (by omega), y2]
  have t1 : Q3 215 1 = ztn c k σ.2.2.1 1 := by rw [v6 _ _ (by omega), z2]
  have u0 : Q3 178 57 = P 178 57 + 1 := by rw [v6 _ _ (by omega), z6 _ _ (by omega), y6 _ _ (by omega), g0]
  have s52 : Q3 178 52 = σ.1.1 := by rw [o3 _ _ (by omega), x1]
  have s53 : Q3 178 53 = σ.1.2.1 := by rw [o3 _ _ (by omega), x2]
  have s54 : Q3 178 54 = σ.1.2.2.1 := by rw [o3 _ _ (by omega), x3]
  have s55 : Q3 178 55 = σ.1.2.2.2 := by rw [o3 _ _ (by omega), x4]
  have s56 : Q3 178 56 = σ.2.1 := by rw [o3 _ _ (by omega), x5]
  have s5 : Q3 178 5 = h := by rw [o3 _ _ (by omega), hh]
  have pa : ∀ a, 0 ≤ a → a ≤ 2 → Q3 213 a = zsa c l σ.2.2.1 σ.2.2.2 a ∧ Q3 214 a = zsg c l σ.2.2.1 σ.2.2.2 a := by
    intro a h0 h2
    rcases (by omega : a = 0 ∨ a = 1 ∨ a = 2) with rfl | rfl | rfl
    · exact ⟨by rw [v6 _ _ (by omega), z6 _ _ (by omega), y3], by rw [v6 _ _ (by omega), z6 _ _ (by omega), y4]⟩
    · exact ⟨by rw [v6 _ _ (by omega), z3], by rw [v6 _ _ (by omega), z4]⟩
    · exact ⟨v3, v4⟩
  have g3 := zgo_le (ztn_1 (m := c) (k := k) (p := σ.2.2.1) (a := 0)) (ztn_1 (m := c) (k := k) (p := σ.2.2.1) (a := 1)) e1
  have g4 := zgo_le (ztn_1 (m := c) (k := k) (p := σ.2.2.1) (a := 0)) (ztn_1 (m := c) (k := k) (p := σ.2.2.1) (a := 1)) e2
  have b0 : -1 ≤ ztn c k σ.2.2.1 0 ∧ ztn c k σ.2.2.1 0 ≤ 1 := ztn_1
  have b1 : -1 ≤ ztn c k σ.2.2.1 1 ∧ ztn c k σ.2.2.1 1 ≤ 1 := ztn_1
  have b2 : -1 ≤ ztn c k σ.2.2.1 2 ∧ ztn c k σ.2.2.1 2 ≤ 1 := ztn_1
  obtain ⟨h1, h8⟩ := hct.1
  have fin : ∀ (D H : Int), D = zcd h σ.1.2.2.1 (σ.1.2.2.2 + (ztn c k σ.2.2.1 1 - ztn c k σ.2.2.1 0)) → H = zcp h (σ.1.2.2.2 + (ztn c k σ.2.2.1 1 - ztn c k σ.2.2.1 0)) → ∀ P', P' 178 52 = σ.1.1 + (ztn c k σ.2.2.1 0 + ztn c k σ.2.2.1 1) * zhx σ.1.2.2.1 → P' 178 53 = σ.1.2.1 + (ztn c k σ.2.2.1 0 + ztn c k σ.2.2.1 1) * zhy σ.1.2.2.1 → P' 178 54 = D → P' 178 55 = H → P' 178 56 = σ.2.1 + ztn c k σ.2.2.1 2 → (∀ r y, (r ≠ 178 ∨ y < 52 ∨ 56 < y) → P' r y = Q3 r y) → zSR P' (zkw3 c l wn σ.2.2.1 σ.2.2.2 hs (P 178 57 + 1) (k, w)).1 (zsp c k l h σ) ∧ zWR P' (zkw3 c l wn σ.2.2.1 σ.2.2.2 hs (P 178 57 + 1) (k, w)).2 ∧ P' 178 57 = P 178 57 + 1 ∧ P' 215 2 = ztn c k σ.2.2.1 2 ∧ zFu hs P P' := by
    intro D H hD hH P' i1 i2 i3 i4 i5 i6
    refine ⟨⟨⟨i1, i2, by rw [i3, hD]; rfl, by rw [i4, hH]; rfl, i5⟩, fun a h0 h2 => ?_, fun i i0 i1 => ?_⟩, ?_, ?_, ?_, fun r y hr => ?_⟩
    · rw [i6 _ _ (by omega), i6 _ _ (by omega)]
      exact pa a h0 h2
    · rw [i6 _ _ (by omega)]
      exact v5.1 i i0 i1
    · exact v5.2.of (i6 _ _ (by omega)) (fun r y _ _ => i6 _ _ (by omega))
    · rw [i6 _ _ (by omega), u0]
    · rw [i6 _ _ (by omega), v2]
    · rw [i6 _ _ (by omega), o3 _ _ (by omega)]
  by_cases m1 : 2 * h ≤ σ.1.2.2.2 + (ztn c k σ.2.2.1 1 - ztn c k σ.2.2.1 0)
  · have m2 : ¬ σ.1.2.2.2 + (ztn c k σ.2.2.1 1 - ztn c k σ.2.2.1 0) < 2 * h := by omega
    refine ⟨zu (zu (zu (zu (zu (zu Q3 178 52 (σ.1.1 + (ztn c k σ.2.2.1 0 + ztn c k σ.2.2.1 1) * zhx σ.1.2.2.1)) 178 53 (σ.1.2.1 + (ztn c k σ.2.2.1 0 + ztn c k σ.2.2.1 1) * zhy σ.1.2.2.1)) 178 55 (σ.1.2.2.2 + (ztn c k σ.2.2.1 1 - ztn c k σ.2.2.1 0))) 178 55 (σ.1.2.2.2 + (ztn c k σ.2.2.1 1 - ztn c k σ.2.2.1 0) - 2 * h)) 178 54 ((σ.1.2.2.1 + 1) % 16)) 178 56 (σ.2.1 + ztn c k σ.2.2.1 2), q1.trans (y1.trans (z1.trans (v1.trans ?_))), fin _ _ (if_pos m1).symm (if_pos m1).symm _ ?_ ?_ ?_ ?_ zus (fun r y hr => ?_)⟩
    · rw [q164_8, if_pos (by omega)]
      simp (disch := omega) only [e163, q164_130, q164_141, q164_155, q164_171, q164_179, q164_204, q164_213, s52, s53, s54, s55, s56, s5, t0, t1, v2, m2, ztm_p, zk_178, zk_215, zp_178_51 rQ3, zun, zun2, zus, zg_pos, zI, ↓reduceIte, Int.reduceEq, Int.reduceLE, Int.reduceLT, Int.reduceAdd, Int.reduceSub, Int.reduceMul, Int.reduceNeg, zg_T, zbI_ok, zbL_ok, zbN_ok, zite1, zite2, zite3, zem, Int.cast_ofNat_Int, and_self, and_true, true_and, or_true, true_or, or_self, ite_not, if_true, if_false, not_true_eq_false, not_false_eq_true]
    · simp (disch := omega) only [zun2, zus]
    · simp (disch := omega) only [zun2, zus]
    · simp (disch := omega) only [zun2, zus]
    · simp (disch := omega) only [zun2, zus]
    · by_cases e : r = 178
      · simp (disch := omega) only [zun2]
      · simp (disch := omega) only [zun]
  · have m2 : σ.1.2.2.2 + (ztn c k σ.2.2.1 1 - ztn c k σ.2.2.1 0) < 2 * h := by omega
    by_cases m3 : σ.1.2.2.2 + (ztn c k σ.2.2.1 1 - ztn c k σ.2.2.1 0) ≤ -(2 * h)
    · have m4 : ¬ -2 * h < σ.1.2.2.2 + (ztn c k σ.2.2.1 1 - ztn c k σ.2.2.1 0) := by omega
      refine ⟨zu (zu (zu (zu (zu (zu Q3 178 52 (σ.1.1 + (ztn c k σ.2.2.1 0 + ztn c k σ.2.2.1 1) * zhx σ.1.2.2.1)) 178 53 (σ.1.2.1 + (ztn c k σ.2.2.1 0 + ztn c k σ.2.2.1 1) * zhy σ.1.2.2.1)) 178 55 (σ.1.2.2.2 + (ztn c k σ.2.2.1 1 - ztn c k σ.2.2.1 0))) 178 55 (σ.1.2.2.2 + (ztn c k σ.2.2.1 1 - ztn c k σ.2.2.1 0) + 2 * h)) 178 54 ((σ.1.2.2.1 + 15) % 16)) 178 56 (σ.2.1 + ztn c k σ.2.2.1 2), q1.trans (y1.trans (z1.trans (v1.trans ?_))), fin _ _ (by unfold zcd; rw [if_neg m1, if_pos m3]) (by unfold zcp; rw [if_neg m1, if_pos m3]) _ ?_ ?_ ?_ ?_ zus (fun r y hr => ?_)⟩
      · rw [q164_8, if_pos (by omega)]
        simp (disch := omega) only [e163, q164_130, q164_141, q164_155, q164_196, q164_204, q164_213, s52, s53, s54, s55, s56, s5, t0, t1, v2, m2, m4, ztm_p, zk_178, zk_215, zp_178_51 rQ3, zun, zun2, zus, zg_pos, zI, ↓reduceIte, Int.reduceEq, Int.reduceLE, Int.reduceLT, Int.reduceAdd, Int.reduceSub, Int.reduceMul, Int.reduceNeg, zg_T, zbI_ok, zbL_ok, zbN_ok, zite1, zite2, zite3, zem, Int.cast_ofNat_Int, and_self, and_true, true_and, or_true, true_or, or_self, ite_not, if_true, if_false, not_true_eq_false, not_false_eq_true]
      · simp (disch := omega) only [zun2, zus]
      · simp (disch := omega) only [zun2, zus]
      · simp (disch := omega) only [zun2, zus]
      · simp (disch := omega) only [zun2, zus]
      · by_cases e : r = 178
        · simp (disch := omega) only [zun2]
        · simp (disch := omega) only [zun]
    · have m4 : -2 * h < σ.1.2.2.2 + (ztn c k σ.2.2.1 1 - ztn c k σ.2.2.1 0) := by omega
      refine ⟨zu (zu (zu (zu Q3 178 52 (σ.1.1 + (ztn c k σ.2.2.1 0 + ztn c k σ.2.2.1 1) * zhx σ.1.2.2.1)) 178 53 (σ.1.2.1 + (ztn c k σ.2.2.1 0 + ztn c k σ.2.2.1 1) * zhy σ.1.2.2.1)) 178 55 (σ.1.2.2.2 + (ztn c k σ.2.2.1 1 - ztn c k σ.2.2.1 0))) 178 56 (σ.2.1 + ztn c k σ.2.2.1 2), q1.trans (y1.trans (z1.trans (v1.trans ?_))), fin _ _ (by unfold zcd; rw [if_neg m1, if_neg m3]) (by unfold zcp; rw [if_neg m1, if_neg m3]) _ ?_ ?_ ?_ ?_ zus (fun r y hr => ?_)⟩
      · rw [q164_8, if_pos (by omega)]
        simp (disch := omega) only [e163, q164_130, q164_141, q164_155, q164_204, q164_213, s52, s53, s54, s55, s56, s5, t0, t1, v2, m2, m4, zk_178, zk_215, zp_178_51 rQ3, zun, zun2, zus, zg_pos, zI, ↓reduceIte, Int.reduceEq, Int.reduceLE, Int.reduceLT, Int.reduceAdd, Int.reduceSub, Int.reduceMul, Int.reduceNeg, zg_T, zbI_ok, zbL_ok, zbN_ok, zite1, zite2, zite3, zem, Int.cast_ofNat_Int, and_self, and_true, true_and, or_true, true_or, or_self, ite_not, if_true, if_false, not_true_eq_false, not_false_eq_true]
      · simp (disch := omega) only [zun2, zus]
      · simp (disch := omega) only [zun2, zus]
      · simp (disch := omega) only [zun2, s54]
      · simp (disch := omega) only [zun2, zus]
      · by_cases e : r = 178
        · simp (disch := omega) only [zun2]
        · simp (disch := omega) only [zun]
