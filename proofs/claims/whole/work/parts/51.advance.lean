/-! THE CLASS'S RUNS: advance -/
theorem zsp_A {m k l : Int → Int} {h : Int} {σ : zS} : ∀ (n : Nat), (∀ a, 0 ≤ a → a ≤ 2 → σ.2.2.1 a < m a → σ.2.2.2 a + n ≤ l (40 * a + σ.2.2.1 a) - 1) → (zit (zsp m k l h) n σ).1 = zit (zr4 h (ztn m k σ.2.2.1 0) (ztn m k σ.2.2.1 1)) n σ.1 ∧ (zit (zsp m k l h) n σ).2.1 = σ.2.1 + n * ztn m k σ.2.2.1 2 ∧ ∀ a, 0 ≤ a → a ≤ 2 → (zit (zsp m k l h) n σ).2.2.1 a = σ.2.2.1 a ∧ (zit (zsp m k l h) n σ).2.2.2 a = if σ.2.2.1 a < m a then σ.2.2.2 a + n else σ.2.2.2 a
  | 0, _ => ⟨rfl, by show σ.2.1 = _; rw [show ((0 : Nat) : Int) = 0 from rfl, Int.zero_mul, Int.add_zero], fun a _ _ => ⟨rfl, by show σ.2.2.2 a = _; rw [show ((0 : Nat) : Int) = 0 from rfl, Int.add_zero]; split <;> rfl⟩⟩
  | n + 1, hl => by
    obtain ⟨i1, i2, i3⟩ := zsp_A (m := m) (k := k) (l := l) (h := h) (σ := σ) n (fun a h0 h2 e => by have := hl a h0 h2 e; omega)
    have t : ∀ a, 0 ≤ a → a ≤ 2 → ztn m k (zit (zsp m k l h) n σ).2.2.1 a = ztn m k σ.2.2.1 a := fun a h0 h2 => by
      unfold ztn
      rw [(i3 a h0 h2).1]
    rw [zit_s, zit_s]
    refine ⟨?_, ?_, fun a h0 h2 => ?_⟩
    · show zr4 h (ztn m k (zit (zsp m k l h) n σ).2.2.1 0) (ztn m k (zit (zsp m k l h) n σ).2.2.1 1) (zit (zsp m k l h) n σ).1 = _
      rw [t 0 (by omega) (by omega), t 1 (by omega) (by omega), i1]
    · show (zit (zsp m k l h) n σ).2.1 + ztn m k (zit (zsp m k l h) n σ).2.2.1 2 = _
      rw [t 2 (by omega) (by omega), i2, show ((n + 1 : Nat) : Int) = (n : Int) + 1 from rfl, Int.add_mul, Int.one_mul, Int.add_assoc]
    · show zsa m l (zit (zsp m k l h) n σ).2.2.1 (zit (zsp m k l h) n σ).2.2.2 a = _ ∧ zsg m l (zit (zsp m k l h) n σ).2.2.1 (zit (zsp m k l h) n σ).2.2.2 a = _
      unfold zsa zsg
      rw [(i3 a h0 h2).1, (i3 a h0 h2).2]
      have e3 : (((n + 1 : Nat)) : Int) = (n : Int) + 1 := rfl
      by_cases e : σ.2.2.1 a < m a
      · have e2 := hl a h0 h2 e
        have hN : ¬ (σ.2.2.1 a < m a ∧ σ.2.2.2 a + n + 1 = l (40 * a + σ.2.2.1 a)) := by omega
        have hN2 : ¬ (σ.2.2.2 a + n + 1 = l (40 * a + σ.2.2.1 a)) := by omega
        simp only [if_pos e, if_neg hN, if_neg hN2, e3]
        exact ⟨trivial, by omega⟩
      · have hN : ¬ (σ.2.2.1 a < m a ∧ σ.2.2.2 a + 1 = l (40 * a + σ.2.2.1 a)) := fun x => e x.1
        simp only [if_neg e, if_neg hN]
        exact ⟨trivial, trivial⟩
theorem zsp_B {m k l : Int → Int} {h : Int} {σ : zS} (n : Nat) (hl : ∀ a, 0 ≤ a → a ≤ 2 → σ.2.2.1 a < m a → σ.2.2.2 a + (n + 1) ≤ l (40 * a + σ.2.2.1 a)) : (zit (zsp m k l h) (n + 1) σ).1 = zit (zr4 h (ztn m k σ.2.2.1 0) (ztn m k σ.2.2.1 1)) (n + 1) σ.1 ∧ (zit (zsp m k l h) (n + 1) σ).2.1 = σ.2.1 + (n + 1) * ztn m k σ.2.2.1 2 ∧ ∀ a, 0 ≤ a → a ≤ 2 → (zit (zsp m k l h) (n + 1) σ).2.2.1 a = (if σ.2.2.1 a < m a ∧ σ.2.2.2 a + (n + 1) = l (40 * a + σ.2.2.1 a) then σ.2.2.1 a + 1 else σ.2.2.1 a) ∧ (zit (zsp m k l h) (n + 1) σ).2.2.2 a = if σ.2.2.1 a < m a then (if σ.2.2.2 a + (n + 1) = l (40 * a + σ.2.2.1 a) then 0 else σ.2.2.2 a + (n + 1)) else σ.2.2.2 a := by
  obtain ⟨i1, i2, i3⟩ := zsp_A (m := m) (k := k) (l := l) (h := h) (σ := σ) n (fun a h0 h2 e => by have := hl a h0 h2 e; omega)
  have t : ∀ a, 0 ≤ a → a ≤ 2 → ztn m k (zit (zsp m k l h) n σ).2.2.1 a = ztn m k σ.2.2.1 a := fun a h0 h2 => by
    unfold ztn
    rw [(i3 a h0 h2).1]
  rw [zit_s, zit_s]
  refine ⟨?_, ?_, fun a h0 h2 => ?_⟩
  · show zr4 h (ztn m k (zit (zsp m k l h) n σ).2.2.1 0) (ztn m k (zit (zsp m k l h) n σ).2.2.1 1) (zit (zsp m k l h) n σ).1 = _
    rw [t 0 (by omega) (by omega), t 1 (by omega) (by omega), i1]
  · show (zit (zsp m k l h) n σ).2.1 + ztn m k (zit (zsp m k l h) n σ).2.2.1 2 = _
    rw [t 2 (by omega) (by omega), i2, Int.add_mul, Int.one_mul, Int.add_assoc]
  · show zsa m l (zit (zsp m k l h) n σ).2.2.1 (zit (zsp m k l h) n σ).2.2.2 a = _ ∧ zsg m l (zit (zsp m k l h) n σ).2.2.1 (zit (zsp m k l h) n σ).2.2.2 a = _
    unfold zsa zsg
    rw [(i3 a h0 h2).1, (i3 a h0 h2).2]
    by_cases e : σ.2.2.1 a < m a
    · simp only [if_pos e, Int.add_assoc]
      exact ⟨trivial, trivial⟩
    · have hN : ¬ (σ.2.2.1 a < m a ∧ σ.2.2.2 a + 1 = l (40 * a + σ.2.2.1 a)) := fun x => e x.1
      have hN2 : ¬ (σ.2.2.1 a < m a ∧ σ.2.2.2 a + (n + 1) = l (40 * a + σ.2.2.1 a)) := fun x => e x.1
      simp only [if_neg e, if_neg hN, if_neg hN2]
      exact ⟨trivial, trivial⟩
/-- the least of the units that are left -/
theorem e65_m {M : zM} {n m : Nat} {c l wn k p g : Int → Int} {a U most : Int} (r0 : zPC M) (hC : zCC M c l wn) (ha : 0 ≤ a ∧ a ≤ 2) (hs : zSA M c l k p g a) (hgl : p a < c a → 1 ≤ l (40 * a + p a) - g a) (hU : 1 ≤ U) : ∃ U', zex 65 4 [] [(2, 27), (0, most), (0, U), (0, a)] M (zKs, n, m) = zex 65 4 [] [(2, 27), (0, most), (0, U'), (0, a + 1)] M (zKs, n, m) ∧ 1 ≤ U' ∧ U' ≤ U ∧ (p a < c a → U' ≤ l (40 * a + p a) - g a) := by
  obtain ⟨s1, s2, s3⟩ := hs
  have c1 := e62 (n := n) (m := m) r0 hC ha
  rw [s1] at c1
  by_cases e : p a < c a
  · rw [if_pos e] at c1 s2
    have g1 := hgl e
    by_cases f : U ≤ l (40 * a + p a) - g a
    · refine ⟨U, ?_, hU, Int.le_refl _, fun _ => f⟩
      rw [q65_4, if_neg (by omega)]
      simp (disch := omega) only [q65_22, c1, zk_27, zk_34, zp_27_5 r0, s2, f, zg_pos, zI, ↓reduceIte, Int.reduceEq, Int.reduceLE, Int.reduceLT, Int.reduceAdd, Int.reduceSub, Int.reduceMul, Int.reduceNeg, zg_T, zbI_ok, zbL_ok, zbN_ok, zite1, zite2, zite3, zem, Int.cast_ofNat_Int, and_self, and_true, true_and, or_true, true_or, or_self, ite_not, if_true, if_false, not_true_eq_false, not_false_eq_true]
    · refine ⟨l (40 * a + p a) - g a, ?_, g1, by omega, fun _ => Int.le_refl _⟩
      rw [q65_4, if_neg (by omega)]
      simp (disch := omega) only [q65_22, c1, zk_27, zk_34, zp_27_5 r0, s2, f, zg_pos, zI, ↓reduceIte, Int.reduceEq, Int.reduceLE, Int.reduceLT, Int.reduceAdd, Int.reduceSub, Int.reduceMul, Int.reduceNeg, zg_T, zbI_ok, zbL_ok, zbN_ok, zite1, zite2, zite3, zem, Int.cast_ofNat_Int, and_self, and_true, true_and, or_true, true_or, or_self, ite_not, if_true, if_false, not_true_eq_false, not_false_eq_true]
  · rw [if_neg e] at c1
    refine ⟨U, ?_, hU, Int.le_refl _, fun x => absurd x e⟩
    rw [q65_4, if_neg (by omega)]
    simp (disch := omega) only [q65_22, c1, zk_27, zg_pos, zI, ↓reduceIte, Int.reduceEq, Int.reduceLE, Int.reduceLT, Int.reduceAdd, Int.reduceSub, Int.reduceMul, Int.reduceNeg, zg_T, zbI_ok, zbL_ok, zbN_ok, zite1, zite2, zite3, zem, Int.cast_ofNat_Int, and_self, and_true, true_and, or_true, true_or, or_self, ite_not, if_true, if_false, not_true_eq_false, not_false_eq_true]
theorem zSA.of {M M' : zM} {c l k p g : Int → Int} {a : Int} (h : zSA M c l k p g a) (h1 : M' 33 a = M 33 a) (h2 : M' 34 a = M 34 a) (h3 : ∀ i, M' (30 + a) i = M (30 + a) i) : zSA M' c l k p g a := by
  obtain ⟨s1, s2, s3⟩ := h
  exact ⟨h1.trans s1, h2.trans s2, fun i i0 i1 => (h3 i).trans (s3 i i0 i1)⟩
theorem e65 {M : zM} {n m : Nat} {c l wn k : Int → Int} {h u most : Int} {σ : zS} (r0 : zPC M) (hC : zCC M c l wn) (hct : zCt c l h) (hh : M 2 3 = h) (hS : zSC M c l k σ) (hok : zSk c l h u σ) (hu : 0 ≤ u ∧ u ≤ 5000) (hm : 1 ≤ most ∧ most ≤ 5000) (hun : 0 ≤ M 27 6 ∧ M 27 6 ≤ 5000) : ∃ U M', (1 ≤ U ∧ U ≤ most) ∧ zex 65 0 [] [(2, 27), (0, most), (9, 0), (9, 0)] M (zKs, n, m) = some ((9, 0), M', (zKs, n, m)) ∧ zSC M' c l k (zit (zsp c k l h) U.toNat σ) ∧ M' 27 6 = M 27 6 + U ∧ M' 27 8 = ztn c k σ.2.2.1 2 ∧ (∀ a, 0 ≤ a → a ≤ 2 → M' 35 a = (if σ.2.2.1 a < c a ∧ σ.2.2.2 a + U = l (40 * a + σ.2.2.1 a) then 1 else 0)) ∧ zFc M M' := by
  obtain ⟨⟨po, st⟩, ax⟩ := hS
  obtain ⟨k1, k2, k3⟩ := hok
  have gl : ∀ a, 0 ≤ a → a ≤ 2 → σ.2.2.1 a < c a → 1 ≤ l (40 * a + σ.2.2.1 a) - σ.2.2.2 a := fun a h0 h2 e => by
    have := (k3 a h0 h2).2.2.2 e
    omega
  have ll : ∀ a, 0 ≤ a → a ≤ 2 → σ.2.2.1 a < c a → l (40 * a + σ.2.2.1 a) ≤ 200 := fun a h0 h2 e => ((hct.2 a h0 h2).2.2 _ (k3 a h0 h2).1 e).2
  obtain ⟨U0, m1, m2, m3, m4⟩ := e65_m (n := n) (m := m) (U := most) (most := most) r0 hC (a := 0) (by omega) (ax 0 (by omega) (by omega)) (gl 0 (by omega) (by omega)) hm.1
  obtain ⟨U1, n1, n2, n3, n4⟩ := e65_m (n := n) (m := m) (U := U0) (most := most) r0 hC (a := 1) (by omega) (ax 1 (by omega) (by omega)) (gl 1 (by omega) (by omega)) m2
  obtain ⟨U, o1, o2, o3, o4⟩ := e65_m (n := n) (m := m) (U := U1) (most := most) r0 hC (a := 2) (by omega) (ax 2 (by omega) (by omega)) (gl 2 (by omega) (by omega)) n2
  simp only [Int.reduceAdd, Int.zero_add] at m1 n1 o1
  have hUl : ∀ a, 0 ≤ a → a ≤ 2 → σ.2.2.1 a < c a → U ≤ l (40 * a + σ.2.2.1 a) - σ.2.2.2 a := fun a h0 h2 e => by
    rcases (by omega : a = 0 ∨ a = 1 ∨ a = 2) with rfl | rfl | rfl
    · have := m4 e; omega
    · have := n4 e; omega
    · exact o4 e
  have pp : ∀ a, 0 ≤ a → a ≤ 2 → 0 ≤ σ.2.2.1 a := fun a h0 h2 => (k3 a h0 h2).1
  have t0 := e66 (n := n) (m := m) r0 hC (a := 0) (by omega) (ax 0 (by omega) (by omega)).1 (pp 0 (by omega) (by omega)) (ax 0 (by omega) (by omega)).2.2
  have t1 := e66 (n := n) (m := m) r0 hC (a := 1) (by omega) (ax 1 (by omega) (by omega)).1 (pp 1 (by omega) (by omega)) (ax 1 (by omega) (by omega)).2.2
  obtain ⟨R, r1, r2, r3⟩ := e56 (M := M) (X := (zKs, n, m)) (r := 28) (l := ztn c k σ.2.2.1 0) (rr := ztn c k σ.2.2.1 1) (u := U) (h := h) (d5 := (9, 0)) (d6 := (9, 0)) (d7 := (9, 0)) (d8 := (9, 0)) (d9 := (9, 0)) (zk_28 n m) hct.1 ztn_1 ztn_1 (by omega) k1 po (by omega)
  have fR : zFc M R := fun r y hr => r3 r y (by omega)
  have rR := fR.pc r0
  have CR := fR.cc hC
  have t2 := e66 (n := n) (m := m) (p := σ.2.2.1) (k := k) rR CR (a := 2) (by omega) (by rw [r3 _ _ (by omega)]; exact (ax 2 (by omega) (by omega)).1) (pp 2 (by omega) (by omega)) (fun i i0 i1 => by rw [r3 _ _ (by omega)]; exact (ax 2 (by omega) (by omega)).2.2 i i0 i1)
  have b2 : -1 ≤ ztn c k σ.2.2.1 2 ∧ ztn c k σ.2.2.1 2 ≤ 1 := ztn_1
  have mb : -(U * 1) ≤ U * ztn c k σ.2.2.1 2 ∧ U * ztn c k σ.2.2.1 2 ≤ U * 1 := zmul_le (by omega) b2.1 b2.2
  have st' : R 28 4 = σ.2.1 := by rw [r3 _ _ (by omega), st]
  have q1 : zex 65 0 [] [(2, 27), (0, most), (9, 0), (9, 0)] M (zKs, n, m) = zex 65 54 [] [(2, 27), (0, most), (0, U), (0, 0)] (zu (zu R 27 8 (ztn c k σ.2.2.1 2)) 28 4 (σ.2.1 + U * ztn c k σ.2.2.1 2)) (zKs, n, m) := by
    rw [q65_0, m1, n1, o1, q65_4, if_pos (by omega)]
    simp (disch := omega) only [q65_42, q65_52, t0, t1, t2, r1, hh, st', zk_2, zk_27, zk_28, zp_27_0 r0, zp_27_2 r0, zp_27_2 rR, zun, zun2, zus, zg_pos, zI, ↓reduceIte, Int.reduceEq, Int.reduceLE, Int.reduceLT, Int.reduceAdd, Int.reduceSub, Int.reduceMul, Int.reduceNeg, zg_T, zbI_ok, zbL_ok, zbN_ok, zite1, zite2, zite3, zem, Int.cast_ofNat_Int, and_self, and_true, true_and, or_true, true_or, or_self, ite_not, if_true, if_false, not_true_eq_false, not_false_eq_true]
  generalize hQ : zu (zu R 27 8 (ztn c k σ.2.2.1 2)) 28 4 (σ.2.1 + U * ztn c k σ.2.2.1 2) = Q at q1
  have fQ : ∀ r y, ((r ≠ 27 ∨ y ≠ 8) ∧ (r ≠ 28 ∨ y < 0 ∨ 4 < y)) → Q r y = M r y := fun r y hr => by
    rw [← hQ]
    by_cases e1 : r = 28
    · rw [zun2 (by omega), zun (by omega), r3 _ _ (by omega)]
    · rw [zun e1]
      by_cases e2 : r = 27
      · rw [zun2 (by omega), r3 _ _ (by omega)]
      · rw [zun e2, r3 _ _ (by omega)]
  have FQ : zFc M Q := fun r y hr => fQ r y (by omega)
  have poQ : zPo Q 28 (zit (zr4 h (ztn c k σ.2.2.1 0) (ztn c k σ.2.2.1 1)) U.toNat σ.1) := by
    obtain ⟨p0, p1, p2, p3⟩ := r2
    have z : ∀ y, 0 ≤ y → y ≤ 3 → Q 28 y = R 28 y := fun y y0 y1 => by rw [← hQ, zun2 (by omega), zun (by omega)]
    exact ⟨by rw [z 0 (by omega) (by omega), p0], by rw [z 1 (by omega) (by omega), p1], by rw [z 2 (by omega) (by omega), p2], by rw [z 3 (by omega) (by omega), p3]⟩
  have stQ : Q 28 4 = σ.2.1 + U * ztn c k σ.2.2.1 2 := by rw [← hQ, zus]
  have dtQ : Q 27 8 = ztn c k σ.2.2.1 2 := by rw [← hQ, zun (by omega), zus]
  have axQ : ∀ a, 0 ≤ a → a ≤ 2 → zSA Q c l k σ.2.2.1 σ.2.2.2 a := fun a h0 h2 => (ax a h0 h2).of (fQ _ _ (by omega)) (fQ _ _ (by omega)) (fun i => fQ _ _ (by omega))
  obtain ⟨A, a1, a2, a3, a4⟩ := e67 (n := n) (m := m) (u := U) (FQ.pc r0) (FQ.cc hC) (a := 0) (by omega) (axQ 0 (by omega) (by omega)) (pp 0 (by omega) (by omega)) (k3 0 (by omega) (by omega)).2.2.1 (ll 0 (by omega) (by omega)) (by omega) (hUl 0 (by omega) (by omega))
  have FA : zFc M A := FQ.trans (fun r y hr => a4 r y (by omega))
  obtain ⟨B, b1, b2', b3, b4⟩ := e67 (n := n) (m := m) (u := U) (FA.pc r0) (FA.cc hC) (a := 1) (by omega) ((axQ 1 (by omega) (by omega)).of (a4 _ _ (by omega)) (a4 _ _ (by omega)) (fun i => a4 _ _ (by omega))) (pp 1 (by omega) (by omega)) (k3 1 (by omega) (by omega)).2.2.1 (ll 1 (by omega) (by omega)) (by omega) (hUl 1 (by omega) (by omega))
  have FB : zFc M B := FA.trans (fun r y hr => b4 r y (by omega))
  obtain ⟨D, d1, d2, d3, d4⟩ := e67 (n := n) (m := m) (u := U) (FB.pc r0) (FB.cc hC) (a := 2) (by omega) (((axQ 2 (by omega) (by omega)).of (a4 _ _ (by omega)) (a4 _ _ (by omega)) (fun i => a4 _ _ (by omega))).of (b4 _ _ (by omega)) (b4 _ _ (by omega)) (fun i => b4 _ _ (by omega))) (pp 2 (by omega) (by omega)) (k3 2 (by omega) (by omega)).2.2.1 (ll 2 (by omega) (by omega)) (by omega) (hUl 2 (by omega) (by omega))
  have FD : zFc M D := FB.trans (fun r y hr => d4 r y (by omega))
  have x6 : D 27 6 = M 27 6 := by rw [d4 _ _ (by omega), b4 _ _ (by omega), a4 _ _ (by omega), fQ _ _ (by omega)]
  have q2 : zex 65 54 [] [(2, 27), (0, most), (0, U), (0, 0)] Q (zKs, n, m) = some ((9, 0), zu D 27 6 (M 27 6 + U), (zKs, n, m)) := by
    simp (disch := omega) only [q65_54, q65_69, a1, b1, d1, x6, zk_27, zg_pos, zI, ↓reduceIte, Int.reduceEq, Int.reduceLE, Int.reduceLT, Int.reduceAdd, Int.reduceSub, Int.reduceMul, Int.reduceNeg, zg_T, zbI_ok, zbL_ok, zbN_ok, zite1, zite2, zite3, zem, Int.cast_ofNat_Int, and_self, and_true, true_and, or_true, true_or, or_self, ite_not, if_true, if_false, not_true_eq_false, not_false_eq_true]
  obtain ⟨B1, B2, B3⟩ := zsp_B (m := c) (k := k) (l := l) (h := h) (σ := σ) (U - 1).toNat (fun a h0 h2 e => by have := hUl a h0 h2 e; omega)
  rw [show (U - 1).toNat + 1 = U.toNat by omega] at B1 B2 B3
  rw [show (((U - 1).toNat : Nat) : Int) + 1 = U by omega] at B2 B3
  have z : ∀ r y, (r ≠ 27 ∨ y ≠ 6) → zu D 27 6 (M 27 6 + U) r y = D r y := fun r y hr => by
    by_cases e : r = 27
    · exact zun2 (by omega)
    · exact zun e
  have S : ∀ a, 0 ≤ a → a ≤ 2 → zSA D c l k (fun b => if σ.2.2.1 b < c b ∧ σ.2.2.2 b + U = l (40 * b + σ.2.2.1 b) then σ.2.2.1 b + 1 else σ.2.2.1 b) (fun b => if σ.2.2.1 b < c b then (if σ.2.2.2 b + U = l (40 * b + σ.2.2.1 b) then 0 else σ.2.2.2 b + U) else σ.2.2.2 b) a := fun a h0 h2 => by
    rcases (by omega : a = 0 ∨ a = 1 ∨ a = 2) with rfl | rfl | rfl
    · exact (a2.of (b4 _ _ (by omega)) (b4 _ _ (by omega)) (fun i => b4 _ _ (by omega))).of (d4 _ _ (by omega)) (d4 _ _ (by omega)) (fun i => d4 _ _ (by omega))
    · exact b2'.of (d4 _ _ (by omega)) (d4 _ _ (by omega)) (fun i => d4 _ _ (by omega))
    · exact d2
  refine ⟨U, _, ⟨o2, by omega⟩, q1.trans q2, ⟨⟨?_, ?_⟩, fun a h0 h2 => ?_⟩, zus, ?_, fun a h0 h2 => ?_, FD.trans (zFc.rfl.zu (by omega))⟩
  · rw [B1]
    obtain ⟨p0, p1, p2, p3⟩ := poQ
    have y : ∀ j, zu D 27 6 (M 27 6 + U) 28 j = Q 28 j := fun j => by rw [z _ _ (by omega), d4 _ _ (by omega), b4 _ _ (by omega), a4 _ _ (by omega)]
    exact ⟨by rw [y, p0], by rw [y, p1], by rw [y, p2], by rw [y, p3]⟩
  · rw [B2, z _ _ (by omega), d4 _ _ (by omega), b4 _ _ (by omega), a4 _ _ (by omega), stQ]
  · obtain ⟨s1, s2, s3⟩ := S a h0 h2
    obtain ⟨e1, e2⟩ := B3 a h0 h2
    refine ⟨?_, ?_, fun i i0 i1 => ?_⟩
    · rw [z _ _ (by omega), s1, e1]
    · rw [z _ _ (by omega), s2, e1, e2]
    · rw [z _ _ (by omega)]
      exact s3 i i0 i1
  · rw [z _ _ (by omega), d4 _ _ (by omega), b4 _ _ (by omega), a4 _ _ (by omega), dtQ]
  · rw [z _ _ (by omega)]
    rcases (by omega : a = 0 ∨ a = 1 ∨ a = 2) with rfl | rfl | rfl
    · rw [d4 _ _ (by omega), b4 _ _ (by omega), a3]
    · rw [d4 _ _ (by omega), b3]
    · exact d3
