/-! THE REFERENCE'S RUNS: sets, goes -/
def zFs (P P' : zM) : Prop := ∀ r y, (r < 178 ∨ (r = 178 ∧ (y < 52 ∨ 57 < y)) ∨ (178 < r ∧ r < 212) ∨ 215 < r) → P' r y = P r y
theorem zFs.trans {P P' P'' : zM} (h : zFs P P') (h' : zFs P' P'') : zFs P P'' := fun r y hr => (h' r y hr).trans (h r y hr)
theorem zFs.rfl {P : zM} : zFs P P := fun _ _ _ => Eq.refl _
theorem zFu.s {P P' : zM} (h : zFu 0 P P') : zFs P P' := fun r y hr => h r y (by omega)
theorem zFs.pr {P P' : zM} (h : zFs P P') (r1 : zPR P) : zPR P' := zPR_t (fun r y => decide (r = 178 ∧ 52 ≤ y ∧ y ≤ 57) || decide (212 ≤ r ∧ r ≤ 215)) (by decide +kernel) r1 (fun r y hr => h r y (by simp at hr; omega))
theorem zFs.cr {P P' : zM} {c l wn : Int → Int} (h : zFs P P') (hC : zCR P c l wn) : zCR P' c l wn := ⟨fun a h0 h2 => by rw [h _ _ (by omega)]; exact hC.1 a h0 h2, fun i i0 i1 => by rw [h _ _ (by omega), h _ _ (by omega)]; exact hC.2 i i0 i1⟩
/-- a run's start -/
def zs0 (x y d : Int) : zS := ((1000 * x + 500, 1000 * y + 500, d, 0), 0, fun _ => 0, fun _ => 0)
theorem zs0_ok {c l : Int → Int} {h x y d : Int} (hc : zCt c l h) (hx : 0 ≤ x ∧ x ≤ 31) (hy : 0 ≤ y ∧ y ≤ 31) (hd : 0 ≤ d ∧ d ≤ 15) : zSk c l h 0 (zs0 x y d) := by
  obtain ⟨⟨h1, h2⟩, h3⟩ := hc
  refine ⟨⟨?_, ?_, hd, ?_, ?_⟩, ⟨Int.le_refl _, Int.le_refl _⟩, fun a h0 h2 => ?_⟩
  · show -(40000 + 1000 * 0) ≤ 1000 * x + 500 ∧ 1000 * x + 500 ≤ 40000 + 1000 * 0
    omega
  · show -(40000 + 1000 * 0) ≤ 1000 * y + 500 ∧ 1000 * y + 500 ≤ 40000 + 1000 * 0
    omega
  · show -(2 * h) < 0
    omega
  · show 0 < 2 * h
    omega
  · obtain ⟨c1, c2, c3⟩ := h3 a h0 h2
    refine ⟨Int.le_refl _, c1, by show 0 ≤ (0 : Int) ∧ (0 : Int) ≤ 200; omega, fun e => ?_⟩
    have := c3 0 (Int.le_refl _) e
    show 0 < l (40 * a + 0)
    omega
theorem zSk_it {m k l : Int → Int} {h : Int} {σ : zS} (hc : zCt m l h) : ∀ (n : Nat) (u : Int), zSk m l h u σ → zSk m l h (u + n) (zit (zsp m k l h) n σ)
  | 0, u, hs => by rw [show u + ((0 : Nat) : Int) = u by omega]; exact hs
  | n + 1, u, hs => by
    rw [zit_s, show u + ((n + 1 : Nat) : Int) = u + n + 1 by omega]
    exact zSk_s hc (zSk_it hc n u hs)
theorem zou_it {m k l : Int → Int} {h : Int} {σ : zS} (ho : zou m σ) (h1 : -(2 * h) < σ.1.2.2.2) (h2 : σ.1.2.2.2 < 2 * h) : ∀ n : Nat, (zit (zsp m k l h) n σ).1 = σ.1 ∧ (zit (zsp m k l h) n σ).2.1 = σ.2.1 ∧ zou m (zit (zsp m k l h) n σ)
  | 0 => ⟨rfl, rfl, ho⟩
  | n + 1 => by
    obtain ⟨e1, e2, e3⟩ := zou_it (k := k) (l := l) ho h1 h2 n
    rw [zit_s]
    obtain ⟨f1, f2, f3⟩ := zou_s (k := k) (l := l) (h := h) e3 (by rw [e1]; exact h1) (by rw [e1]; exact h2)
    exact ⟨f1.trans e1, f2.trans e2, f3⟩
theorem e161_l {P : zM} {n m : Nat} (r1 : zPR P) : ∀ (q : Nat) (i : Int), 0 ≤ i → i + q = 120 → zex 161 2 [] [(2, 178), (0, i)] (zcpy P 180 0 212 0 i) (zKs, n, m) = zex 161 2 [] [(2, 178), (0, 120)] (zcpy P 180 0 212 0 120) (zKs, n, m)
  | 0, i, h0, h1 => by
    rw [show i = 120 by omega]
  | q + 1, i, h0, h1 => by
    have zs := zcpy_z (M := P) (a := 180) (b := 212) (dp := 0) h0
    rw [Int.zero_add] at zs
    rw [← e161_l (n := n) (m := m) r1 q (i + 1) (by omega) (by omega), q161_2]
    simp (disch := omega) only [q161_13, zk_178, zk_180, zk_212, zcpy_r, zp_178_2 r1, zp_178_48 r1, zs, zg_pos, if_neg, zI, ↓reduceIte, Int.reduceEq, Int.reduceLE, Int.reduceLT, Int.reduceAdd, Int.reduceSub, Int.reduceMul, Int.reduceNeg, zg_T, zbI_ok, zbL_ok, zbN_ok, zite1, zite2, zite3, zem, Int.cast_ofNat_Int, and_self, and_true, true_and, or_true, true_or, or_self, ite_not, if_true, if_false, not_true_eq_false, not_false_eq_true]
theorem e161 {P : zM} {d : zV} (r1 : zPR P) (hx : 0 ≤ P 178 10 ∧ P 178 10 ≤ 31) (hy : 0 ≤ P 178 11 ∧ P 178 11 ≤ 31) : ∃ P', (∀ n m, zex 161 0 [] [(2, 178), d] P (zKs, n, m) = some ((9, 0), P', (zKs, n, m))) ∧ zSR P' (P 180) (zs0 (P 178 10) (P 178 11) (P 178 12)) ∧ P' 178 57 = 0 ∧ zFs P P' := by
  have q1 : ∀ n m, zex 161 0 [] [(2, 178), d] P (zKs, n, m) = zex 161 2 [] [(2, 178), (0, 120)] (zcpy P 180 0 212 0 120) (zKs, n, m) := fun n m => by
    have := e161_l (n := n) (m := m) r1 120 0 (by omega) (by omega)
    rw [zcpy_0] at this
    rw [q161_0, this]
  have f1 : ∀ r y, r ≠ 212 → zcpy P 180 0 212 0 120 r y = P r y := fun r y hr => zcpy_r hr
  have f2 : ∀ i, 0 ≤ i → i < 120 → zcpy P 180 0 212 0 120 212 i = P 180 i := fun i i0 i1 => by rw [zcpy_in (by omega), show 0 + (i - 0) = i by omega]
  generalize zcpy P 180 0 212 0 120 = Q at q1 f1 f2
  have rQ : zPR Q := zPR_t (fun r y => decide (r = 212)) (by decide +kernel) r1 (fun r y hr => f1 r y (by simpa using hr))
  have s1 : ∀ y, Q 178 y = P 178 y := fun y => f1 _ _ (by omega)
  refine ⟨zu (zu (zu (zu (zu (zu (zu (zu (zu (zu (zu (zu Q 178 52 (1000 * P 178 10 + 500)) 178 53 (1000 * P 178 11 + 500)) 178 54 (P 178 12)) 178 55 0) 178 56 0) 178 57 0) 213 0 0) 214 0 0) 213 1 0) 214 1 0) 213 2 0) 214 2 0, fun n m => ?_, ⟨?_, fun a h0 h2 => ?_, fun i i0 i1 => ?_⟩, ?_, fun r y hr => ?_⟩
  · rw [q1, q161_2, if_pos (by omega)]
    simp (disch := omega) only [q161_23, q161_31, q161_35, q161_38, q161_41, q161_44, q161_46, q161_54, q161_59, s1, zk_178, zk_213, zk_214, zp_178_49 r1, zp_178_50 r1, zun, zun2, zus, zg_pos, zI, ↓reduceIte, Int.reduceEq, Int.reduceLE, Int.reduceLT, Int.reduceAdd, Int.reduceSub, Int.reduceMul, Int.reduceNeg, zg_T, zbI_ok, zbL_ok, zbN_ok, zite1, zite2, zite3, zem, Int.cast_ofNat_Int, and_self, and_true, true_and, or_true, true_or, or_self, ite_not, if_true, if_false, not_true_eq_false, not_false_eq_true]
  · simp (disch := omega) only [zun, zun2, zus]
    exact ⟨rfl, rfl, rfl, rfl, rfl⟩
  · rcases (by omega : a = 0 ∨ a = 1 ∨ a = 2) with rfl | rfl | rfl <;> simp (disch := omega) only [zun, zun2, zus] <;> exact ⟨rfl, rfl⟩
  · simp (disch := omega) only [zun]
    exact f2 i i0 i1
  · simp (disch := omega) only [zun, zun2, zus]
  · by_cases e : r = 178
    · subst e
      simp (disch := omega) only [zun, zun2]
      exact f1 _ _ (by omega)
    · simp (disch := omega) only [zun]
      exact f1 _ _ (by omega)
theorem e162 {P : zM} {n m : Nat} (r1 : zPR P) : zex 162 0 [] [(2, 178)] P (zKs, n, m) = some ((0, if P 213 0 = P 179 0 ∧ P 213 1 = P 179 1 ∧ P 213 2 = P 179 2 then 1 else 0), P, (zKs, n, m)) := by
  by_cases e0 : P 213 0 = P 179 0
  · by_cases e1 : P 213 1 = P 179 1
    · by_cases e2 : P 213 2 = P 179 2
      · simp (disch := omega) only [q162_0, q162_30, zk_178, zk_179, zk_213, zp_178_1 r1, zp_178_49 r1, e0, e1, e2, zg_pos, ↓reduceIte, Int.reduceEq, Int.reduceLE, Int.reduceLT, Int.reduceAdd, Int.reduceSub, Int.reduceMul, Int.reduceNeg, zg_T, zbI_ok, zbL_ok, zbN_ok, zite1, zite2, zite3, zem, Int.cast_ofNat_Int, and_self, and_true, true_and, or_true, true_or, or_self, ite_not, if_true, if_false, not_true_eq_false, not_false_eq_true]
      · simp (disch := omega) only [q162_0, q162_29, q162_30, zk_178, zk_179, zk_213, zp_178_1 r1, zp_178_49 r1, e0, e1, e2, and_false, zg_pos, ↓reduceIte, Int.reduceEq, Int.reduceLE, Int.reduceLT, Int.reduceAdd, Int.reduceSub, Int.reduceMul, Int.reduceNeg, zg_T, zbI_ok, zbL_ok, zbN_ok, zite1, zite2, zite3, zem, Int.cast_ofNat_Int, and_self, and_true, true_and, or_true, true_or, or_self, ite_not, if_true, if_false, not_true_eq_false, not_false_eq_true]
    · simp (disch := omega) only [q162_0, q162_29, q162_30, zk_178, zk_179, zk_213, zp_178_1 r1, zp_178_49 r1, e0, e1, false_and, and_false, zg_pos, ↓reduceIte, Int.reduceEq, Int.reduceLE, Int.reduceLT, Int.reduceAdd, Int.reduceSub, Int.reduceMul, Int.reduceNeg, zg_T, zbI_ok, zbL_ok, zbN_ok, zite1, zite2, zite3, zem, Int.cast_ofNat_Int, and_self, and_true, true_and, or_true, true_or, or_self, ite_not, if_true, if_false, not_true_eq_false, not_false_eq_true]
  · simp (disch := omega) only [q162_0, q162_29, q162_30, zk_178, zk_179, zk_213, zp_178_1 r1, zp_178_49 r1, e0, false_and, zg_pos, ↓reduceIte, Int.reduceEq, Int.reduceLE, Int.reduceLT, Int.reduceAdd, Int.reduceSub, Int.reduceMul, Int.reduceNeg, zg_T, zbI_ok, zbL_ok, zbN_ok, zite1, zite2, zite3, zem, Int.cast_ofNat_Int, and_self, and_true, true_and, or_true, true_or, or_self, ite_not, if_true, if_false, not_true_eq_false, not_false_eq_true]
/-- the reference is at unit e of a run from σ, or all is run out before -/
def zRA (P : zM) (c l k : Int → Int) (h : Int) (σ : zS) (e : Nat) : Prop := ∃ n : Nat, n ≤ e ∧ P 178 57 = (n : Int) ∧ zSR P k (zit (zsp c k l h) n σ) ∧ (n = e ∨ zou c (zit (zsp c k l h) n σ))
theorem e173 {n m : Nat} {c l wn k : Int → Int} {h to F : Int} {σ : zS} {E : Nat} (hct : zCt c l h) (hσ : zSk c l h 0 σ) (hF : 0 ≤ F ∧ F ≤ 4000) (hto : 0 ≤ to) (hE : (E : Int) = min to F) {w : zW} : ∀ (q u : Nat) (P : zM), u + q = E → zPR P → zCR P c l wn → P 178 5 = h → P 178 16 = F → zWR P w → P 178 57 = (u : Int) → zSR P k (zit (zsp c k l h) u σ) → ∃ P', zex 173 0 [] [(2, 178), (0, to)] P (zKs, n, m) = some ((9, 0), P', (zKs, n, m)) ∧ zRA P' c l k h σ E ∧ zFs P P'
  | 0, u, P, hq, r1, hC, hh, hf, hw, hu, hS => by
    refine ⟨P, ?_, ⟨u, by omega, hu, hS, .inl (by omega)⟩, zFs.rfl⟩
    rw [q173_0, zg_pos (zk_178 n m), hu]
    by_cases e : to ≤ (u : Int)
    · rw [if_pos e, q173_16]
    · rw [if_neg e, zg_pos (zk_178 n m), zg_pos (zk_178 n m), hf, if_pos (by omega), q173_16]
  | q + 1, u, P, hq, r1, hC, hh, hf, hw, hu, hS => by
    have e0 : zex 173 0 [] [(2, 178), (0, to)] P (zKs, n, m) = zbI (some ((0, if zou c (zit (zsp c k l h) u σ) then 1 else 0), P, (zKs, n, m))) (fun v1 M1 X1 => if v1 = 0 then zg (zkd X1 178 = (18, 0)) (zbN (zex 164 0 [] [(2, 178), (0, (0 : Int)), (9, 0), (9, 0)] M1 X1) (fun M2 X2 => zex 173 0 [] [(2, 178), (0, to)] M2 X2)) else zex 173 16 [] [(2, 178), (0, to)] M1 X1) := by
      rw [q173_0, zg_pos (zk_178 n m), hu, if_neg (by omega), zg_pos (zk_178 n m), zg_pos (zk_178 n m), hf, if_neg (by omega), zg_pos (zk_178 n m), e162 r1, (hC.1 0 (by omega) (by omega)).1, (hC.1 1 (by omega) (by omega)).1, (hC.1 2 (by omega) (by omega)).1, (hS.2.1 0 (by omega) (by omega)).1, (hS.2.1 1 (by omega) (by omega)).1, (hS.2.1 2 (by omega) (by omega)).1]
    by_cases ho : zou c (zit (zsp c k l h) u σ)
    · exact ⟨P, by rw [e0, if_pos ho, zbI_ok, if_neg (by omega), q173_16], ⟨u, by omega, hu, hS, .inr ho⟩, zFs.rfl⟩
    · have ok := zSk_it (k := k) hct u 0 hσ
      obtain ⟨P1, p1, p2, p3, p4, p5, p6⟩ := e164 (n := n) (m := m) (hs := 0) r1 hC hct hh hS ok (by omega) hw (.inl rfl) (by omega)
      rw [zkw3_0] at p2 p3
      have f := zFu.s p6
      rw [← zit_s (zsp c k l h) u σ] at p2
      obtain ⟨P2, t1, t2, t3⟩ := e173 (n := n) (m := m) (wn := wn) hct hσ hF hto hE q (u + 1) P1 (by omega) (f.pr r1) (f.cr hC) (by rw [f _ _ (by omega), hh]) (by rw [f _ _ (by omega), hf]) p3 (by rw [p4, hu]; rfl) p2
      exact ⟨P2, by rw [e0, if_neg ho, zbI_ok, if_pos rfl, zg_pos (zk_178 n m), p1, zbN_ok, t1], t2, f.trans t3⟩
theorem zRA.go {P : zM} {n m : Nat} {c l wn k : Int → Int} {h to F : Int} {σ : zS} {e E : Nat} (hA : zRA P c l k h σ e) (heE : e ≤ E) (hct : zCt c l h) (hσ : zSk c l h 0 σ) (hF : 0 ≤ F ∧ F ≤ 4000) (hto : 0 ≤ to) (hE : (E : Int) = min to F) (r1 : zPR P) (hC : zCR P c l wn) (hh : P 178 5 = h) (hf : P 178 16 = F) : ∃ P', zex 173 0 [] [(2, 178), (0, to)] P (zKs, n, m) = some ((9, 0), P', (zKs, n, m)) ∧ zRA P' c l k h σ E ∧ zFs P P' := by
  obtain ⟨u, h1, h2, h3, -⟩ := hA
  exact e173 (w := (P 178 58, P 198, P 199, P 200)) hct hσ hF hto hE (E - u) u P (by omega) r1 hC hh hf ⟨rfl, fun i _ _ _ => ⟨rfl, rfl, rfl⟩⟩ h2 h3
theorem zRA.pose {P : zM} {c l k : Int → Int} {h : Int} {σ : zS} {e : Nat} (hA : zRA P c l k h σ e) (hct : zCt c l h) (hσ : zSk c l h 0 σ) : P 178 52 = (zit (zsp c k l h) e σ).1.1 ∧ P 178 53 = (zit (zsp c k l h) e σ).1.2.1 ∧ P 178 54 = (zit (zsp c k l h) e σ).1.2.2.1 ∧ P 178 55 = (zit (zsp c k l h) e σ).1.2.2.2 ∧ P 178 56 = (zit (zsp c k l h) e σ).2.1 := by
  obtain ⟨n, h1, h2, ⟨h3, h4, h5⟩, h6⟩ := hA
  rcases h6 with h6 | h6
  · subst h6; exact h3
  · have ok := zSk_it (k := k) hct n 0 hσ
    obtain ⟨e1, e2, -⟩ := zou_it (k := k) (l := l) h6 ok.1.2.2.2.1 ok.1.2.2.2.2 (e - n)
    rw [← zit_add, show n + (e - n) = e by omega] at e1 e2
    rw [e1, e2]
    exact h3
