/-! MISSES -/
/-- where a run from σ stands behind a unit -/
def zpz (c k l : Int → Int) (h F : Int) (σ : zS) (u : Int) : zT4 := (zit (zsp c k l h) (min u F).toNat σ).1
abbrev zht (c k l : Int → Int) (h F : Int) (σ : zS) (U X Y : Int → Int) (i : Int) : Prop := (zpz c k l h F σ (U i)).1 / 1000 = X i ∧ (zpz c k l h F σ (U i)).2.1 / 1000 = Y i
def zms (c k l : Int → Int) (h F : Int) (σ : zS) (U X Y : Int → Int) : Int → Int := fun i => if zht c k l h F σ U X Y i then 0 else 1
/-- good spots -/
def zSpo (F S : Int) (U : Int → Int) : Prop := (0 ≤ F ∧ F ≤ 4000) ∧ (0 ≤ S ∧ S ≤ 12) ∧ (∀ i, 0 ≤ i → i < S → 1 ≤ U i ∧ U i ≤ 4000) ∧ ∀ i j, 0 ≤ i → i ≤ j → j < S → U i ≤ U j
def zRD (P : zM) (c l wn : Int → Int) (h F S : Int) (U X Y : Int → Int) : Prop := zPR P ∧ zCR P c l wn ∧ P 178 5 = h ∧ P 178 16 = F ∧ P 178 21 = S ∧ ∀ i, 0 ≤ i → i < S → P 190 i = U i ∧ P 191 i = X i ∧ P 192 i = Y i
theorem zRD.of {P P' : zM} {c l wn : Int → Int} {h F S : Int} {U X Y : Int → Int} (hD : zRD P c l wn h F S U X Y) (f : zFs P P') : zRD P' c l wn h F S U X Y := by
  obtain ⟨d1, d2, d3, d4, d5, d6⟩ := hD
  exact ⟨f.pr d1, f.cr d2, by rw [f _ _ (by omega), d3], by rw [f _ _ (by omega), d4], by rw [f _ _ (by omega), d5], fun i i0 i1 => by rw [f _ _ (by omega), f _ _ (by omega), f _ _ (by omega)]; exact d6 i i0 i1⟩
/-- the reference goes to a spot -/
theorem e192_g {P : zM} {n m : Nat} {c l wn k : Int → Int} {h F S : Int} {U X Y : Int → Int} {σ : zS} {e : Nat} {x1 x2 i : Int} (hct : zCt c l h) (hσ : zSk c l h 0 σ) (hso : zSpo F S U) (hD : zRD P c l wn h F S U X Y) (hi : 0 ≤ i ∧ i < S) (he : e ≤ (min (U i) F).toNat) (hA : zRA P c l k h σ e) (hx : 0 ≤ x2 ∧ x2 ≤ 100) : ∃ P', zex 192 12 [] [(2, 178), (0, x1), (0, x2), (0, i)] P (zKs, n, m) = zex 192 4 [] [(2, 178), (0, x1), (0, x2 + zms c k l h F σ U X Y i), (0, i + 1)] P' (zKs, n, m) ∧ zRA P' c l k h σ (min (U i) F).toNat ∧ zFs P P' := by
  obtain ⟨d1, d2, d3, d4, d5, d6⟩ := hD
  obtain ⟨⟨o1, o2⟩, ⟨o3, o4⟩, o5, o6⟩ := hso
  obtain ⟨u1, u2⟩ := o5 i hi.1 hi.2
  obtain ⟨f1, f2, f3⟩ := d6 i hi.1 hi.2
  obtain ⟨P1, p1, p2, p3⟩ := zRA.go (n := n) (m := m) (to := U i) (F := F) hA he hct hσ ⟨o1, o2⟩ (by omega) (by omega) d1 d2 d3 d4
  obtain ⟨x0, y0, -⟩ := p2.pose hct hσ
  have ok := zSk_it (k := k) hct (min (U i) F).toNat 0 hσ
  obtain ⟨⟨bx, bx'⟩, ⟨by', by''⟩, -⟩ := ok.1
  have r2 := p3.pr d1
  have c1 : P1 178 52 = (zpz c k l h F σ (U i)).1 := x0
  have c2 : P1 178 53 = (zpz c k l h F σ (U i)).2.1 := y0
  have i1 : zI (P1 178 52) := by rw [x0]; unfold zI; omega
  have i2 : zI (P1 178 53) := by rw [y0]; unfold zI; omega
  have a1 := e166 (P1 178 52) (9, 0) P1 (zKs, n, m) i1
  have a2 := e166 (P1 178 53) (9, 0) P1 (zKs, n, m) i2
  rw [c1] at a1
  rw [c2] at a2
  have g2 : P1 191 i = X i := by rw [p3 _ _ (by omega), f2]
  have g3 : P1 192 i = Y i := by rw [p3 _ _ (by omega), f3]
  refine ⟨P1, ?_, p2, p3⟩
  unfold zms
  by_cases m1 : (zpz c k l h F σ (U i)).1 / 1000 = X i
  · by_cases m2 : (zpz c k l h F σ (U i)).2.1 / 1000 = Y i
    · rw [if_pos ⟨m1, m2⟩]
      simp (disch := omega) only [q192_12, q192_38, zk_178, zk_190, zk_191, zk_192, zp_178_22 d1, zp_178_23 r2, zp_178_24 r2, f1, p1, c1, c2, a1, a2, g2, g3, m1, m2, zg_pos, zI, ↓reduceIte, Int.reduceEq, Int.reduceLE, Int.reduceLT, Int.reduceAdd, Int.reduceSub, Int.reduceMul, Int.reduceNeg, zg_T, zbI_ok, zbL_ok, zbN_ok, zite1, zite2, zite3, zem, Int.cast_ofNat_Int, and_self, and_true, true_and, or_true, true_or, or_self, ite_not, if_true, if_false, not_true_eq_false, not_false_eq_true]
    · rw [if_neg (fun x => m2 x.2)]
      simp (disch := omega) only [q192_12, q192_35, q192_38, zk_178, zk_190, zk_191, zk_192, zp_178_22 d1, zp_178_23 r2, zp_178_24 r2, f1, p1, c1, c2, a1, a2, g2, g3, m1, m2, zg_pos, zI, ↓reduceIte, Int.reduceEq, Int.reduceLE, Int.reduceLT, Int.reduceAdd, Int.reduceSub, Int.reduceMul, Int.reduceNeg, zg_T, zbI_ok, zbL_ok, zbN_ok, zite1, zite2, zite3, zem, Int.cast_ofNat_Int, and_self, and_true, true_and, or_true, true_or, or_self, ite_not, if_true, if_false, not_true_eq_false, not_false_eq_true]
  · rw [if_neg (fun x => m1 x.1)]
    simp (disch := omega) only [q192_12, q192_35, q192_38, zk_178, zk_190, zk_191, zp_178_22 d1, zp_178_23 r2, f1, p1, c1, a1, g2, m1, zg_pos, zI, ↓reduceIte, Int.reduceEq, Int.reduceLE, Int.reduceLT, Int.reduceAdd, Int.reduceSub, Int.reduceMul, Int.reduceNeg, zg_T, zbI_ok, zbL_ok, zbN_ok, zite1, zite2, zite3, zem, Int.cast_ofNat_Int, and_self, and_true, true_and, or_true, true_or, or_self, ite_not, if_true, if_false, not_true_eq_false, not_false_eq_true]
theorem zms_01 {c k l : Int → Int} {h F : Int} {σ : zS} {U X Y : Int → Int} {i : Int} : zms c k l h F σ U X Y i = 0 ∨ zms c k l h F σ U X Y i = 1 := by
  unfold zms
  split
  · exact .inl rfl
  · exact .inr rfl
/-- all spots are counted -/
theorem e192_0 {n m : Nat} {c l wn k : Int → Int} {h F S : Int} {U X Y : Int → Int} {σ : zS} (hct : zCt c l h) (hσ : zSk c l h 0 σ) (hso : zSpo F S U) : ∀ (q : Nat) (i x2 : Int) (e : Nat) (P : zM), 0 ≤ i → i + q = S → (i < S → e ≤ (min (U i) F).toNat) → zRD P c l wn h F S U X Y → zRA P c l k h σ e → 0 ≤ x2 → x2 ≤ i → ∃ P', zex 192 4 [] [(2, 178), (0, 0), (0, x2), (0, i)] P (zKs, n, m) = some ((0, x2 + zsm (zms c k l h F σ U X Y) i q), P', (zKs, n, m)) ∧ zFs P P'
  | 0, i, x2, e, P, h0, h1, he, hD, hA, h2, h3 => by
    refine ⟨P, ?_, zFs.rfl⟩
    rw [q192_4, zg_pos (zk_178 n m), hD.2.2.2.2.1, if_pos (by omega), q192_42, zsm, Int.add_zero]
  | q + 1, i, x2, e, P, h0, h1, he, hD, hA, h2, h3 => by
    have o := hso.2.1
    obtain ⟨P1, p1, p2, p3⟩ := e192_g (n := n) (m := m) (x1 := 0) (x2 := x2) hct hσ hso hD ⟨h0, by omega⟩ (he (by omega)) hA (by omega)
    have z := zms_01 (c := c) (k := k) (l := l) (h := h) (F := F) (σ := σ) (U := U) (X := X) (Y := Y) (i := i)
    obtain ⟨P2, q1, q2⟩ := e192_0 (n := n) (m := m) hct hσ hso q (i + 1) (x2 + zms c k l h F σ U X Y i) _ P1 (by omega) (by omega) (fun hi => by have := hso.2.2.2 i (i + 1) h0 (by omega) hi; omega) (hD.of p3) p2 (by omega) (by omega)
    refine ⟨P2, ?_, p3.trans q2⟩
    rw [q192_4, zg_pos (zk_178 n m), hD.2.2.2.2.1, if_neg (by omega), if_pos rfl, p1, q1]
    show some ((0, x2 + zms c k l h F σ U X Y i + zsm (zms c k l h F σ U X Y) (i + 1) q), P2, (zKs, n, m)) = some ((0, x2 + (zms c k l h F σ U X Y i + zsm (zms c k l h F σ U X Y) (i + 1) q)), P2, (zKs, n, m))
    rw [Int.add_assoc]
/-- only whether one is missed -/
theorem e192_1 {n m : Nat} {c l wn k : Int → Int} {h F S : Int} {U X Y : Int → Int} {σ : zS} (hct : zCt c l h) (hσ : zSk c l h 0 σ) (hso : zSpo F S U) : ∀ (q : Nat) (i : Int) (e : Nat) (P : zM), 0 ≤ i → i + q = S → (i < S → e ≤ (min (U i) F).toNat) → zRD P c l wn h F S U X Y → zRA P c l k h σ e → ∃ P' v, zex 192 4 [] [(2, 178), (0, 1), (0, 0), (0, i)] P (zKs, n, m) = some ((0, v), P', (zKs, n, m)) ∧ zFs P P' ∧ ((v = 0 ∧ ∀ j, i ≤ j → j < S → zht c k l h F σ U X Y j) ∨ (v = 1 ∧ ¬ ∀ j, i ≤ j → j < S → zht c k l h F σ U X Y j))
  | 0, i, e, P, h0, h1, he, hD, hA => by
    refine ⟨P, 0, ?_, zFs.rfl, .inl ⟨rfl, fun j j0 j1 => by omega⟩⟩
    rw [q192_4, zg_pos (zk_178 n m), hD.2.2.2.2.1, if_pos (by omega), q192_42]
  | q + 1, i, e, P, h0, h1, he, hD, hA => by
    obtain ⟨P1, p1, p2, p3⟩ := e192_g (n := n) (m := m) (x1 := 1) (x2 := 0) hct hσ hso hD ⟨h0, by omega⟩ (he (by omega)) hA (by omega)
    have s1 : zex 192 4 [] [(2, 178), (0, 1), (0, 0), (0, i)] P (zKs, n, m) = zex 192 4 [] [(2, 178), (0, 1), (0, 0 + zms c k l h F σ U X Y i), (0, i + 1)] P1 (zKs, n, m) := by
      rw [q192_4, zg_pos (zk_178 n m), hD.2.2.2.2.1, if_neg (by omega), if_neg (by omega), if_neg (by omega), p1]
    by_cases hi : zht c k l h F σ U X Y i
    · have z : zms c k l h F σ U X Y i = 0 := if_pos hi
      rw [z, Int.zero_add] at s1
      obtain ⟨P2, v, q1, q2, q3⟩ := e192_1 (n := n) (m := m) hct hσ hso q (i + 1) _ P1 (by omega) (by omega) (fun hi => by have := hso.2.2.2 i (i + 1) h0 (by omega) hi; omega) (hD.of p3) p2
      refine ⟨P2, v, s1.trans q1, p3.trans q2, ?_⟩
      rcases q3 with ⟨v0, q3⟩ | ⟨v0, q3⟩
      · refine .inl ⟨v0, fun j j0 j1 => ?_⟩
        by_cases ej : j = i
        · subst ej; exact hi
        · exact q3 j (by omega) j1
      · exact .inr ⟨v0, fun x => q3 (fun j j0 j1 => x j (by omega) j1)⟩
    · have z : zms c k l h F σ U X Y i = 1 := if_neg hi
      rw [z, Int.zero_add] at s1
      have hD1 := hD.of p3
      refine ⟨P1, 1, ?_, p3, .inr ⟨rfl, fun x => hi (x i (by omega) (by omega))⟩⟩
      rw [s1, q192_4, zg_pos (zk_178 n m), hD1.2.2.2.2.1]
      by_cases e1 : S ≤ i + 1
      · rw [if_pos e1, q192_42]
      · rw [if_neg e1, if_neg (by omega), if_pos (by omega), q192_42]
/-! the class -/
def zCD (M : zM) (c l wn : Int → Int) (h F S : Int) (U X Y : Int → Int) : Prop := zPC M ∧ zCC M c l wn ∧ M 2 3 = h ∧ M 25 3 = F ∧ M 65 2 = S ∧ ∀ i, 0 ≤ i → i < S → M 67 i = U i ∧ M 68 i = X i ∧ M 69 i = Y i
theorem zCD.of {M M' : zM} {c l wn : Int → Int} {h F S : Int} {U X Y : Int → Int} (hD : zCD M c l wn h F S U X Y) (f : zFc M M') : zCD M' c l wn h F S U X Y := by
  obtain ⟨d1, d2, d3, d4, d5, d6⟩ := hD
  exact ⟨f.pc d1, f.cc d2, by rw [f _ _ (by omega), d3], by rw [f _ _ (by omega), d4], by rw [f _ _ (by omega), d5], fun i i0 i1 => by rw [f _ _ (by omega), f _ _ (by omega), f _ _ (by omega)]; exact d6 i i0 i1⟩
theorem e27 {M : zM} {n m : Nat} {c l wn k : Int → Int} {h F S : Int} {U X Y : Int → Int} {σ : zS} {v : Nat} {i : Int} (hct : zCt c l h) (hσ : zSk c l h 0 σ) (hso : zSpo F S U) (hD : zCD M c l wn h F S U X Y) (hi : 0 ≤ i ∧ i < S) (hv : v ≤ (min (U i) F).toNat) (hu : M 27 6 = (v : Int)) (hS : zSC M c l k (zit (zsp c k l h) v σ)) : ∃ M', zex 27 0 [] [(2, 65), (0, i)] M (zKs, n, m) = some ((0, if zht c k l h F σ U X Y i then 1 else 0), M', (zKs, n, m)) ∧ M' 27 6 = (((min (U i) F).toNat : Nat) : Int) ∧ zSC M' c l k (zit (zsp c k l h) (min (U i) F).toNat σ) ∧ zFc M M' := by
  obtain ⟨d1, d2, d3, d4, d5, d6⟩ := hD
  obtain ⟨⟨o1, o2⟩, ⟨o3, o4⟩, o5, o6⟩ := hso
  obtain ⟨u1, u2⟩ := o5 i hi.1 hi.2
  obtain ⟨f1, f2, f3⟩ := d6 i hi.1 hi.2
  obtain ⟨M1, p1, p2, p3, p4⟩ := e64 (n := n) (m := m) (E := (min (U i) F).toNat) (d := (9, 0)) hct hσ (by omega) hv d1 d2 d3 hu hS
  rw [show (((min (U i) F).toNat : Nat) : Int) = min (U i) F by omega] at p1
  obtain ⟨x0, y0, -⟩ := p3.1.1
  have ok := zSk_it (k := k) hct (min (U i) F).toNat 0 hσ
  obtain ⟨⟨bx, bx'⟩, ⟨by', by''⟩, -⟩ := ok.1
  have r2 := p4.pc d1
  have c1 : M1 28 0 = (zpz c k l h F σ (U i)).1 := x0
  have c2 : M1 28 1 = (zpz c k l h F σ (U i)).2.1 := y0
  have a1 := e53 (M := M1) (X := (zKs, n, m)) (zk_28 n m) (by rw [x0]; unfold zI; omega)
  have a2 := e54 (M := M1) (X := (zKs, n, m)) (zk_28 n m) (by rw [y0]; unfold zI; omega)
  rw [c1] at a1
  rw [c2] at a2
  have g2 : M1 68 i = X i := by rw [p4 _ _ (by omega), f2]
  have g3 : M1 69 i = Y i := by rw [p4 _ _ (by omega), f3]
  refine ⟨M1, ?_, p2, p3, p4⟩
  by_cases m1 : (zpz c k l h F σ (U i)).1 / 1000 = X i
  · by_cases m2 : (zpz c k l h F σ (U i)).2.1 / 1000 = Y i
    · rw [if_pos (show zht c k l h F σ U X Y i from ⟨m1, m2⟩)]
      simp (disch := omega) only [q27_0, q27_38, ↓b221, zk_25, zk_27, zk_28, zk_65, zk_66, zk_67, zk_68, zk_69, zp_65_0 d1, zp_65_1 d1, zp_65_3 d1, zp_66_0 d1, zp_65_0 r2, zp_65_3 r2, zp_66_1 r2, zp_66_2 r2, zp_27_2 r2, f1, d4, p1, a1, a2, g2, g3, m1, m2, zg_pos, zI, ↓reduceIte, Int.reduceEq, Int.reduceLE, Int.reduceLT, Int.reduceAdd, Int.reduceSub, Int.reduceMul, Int.reduceNeg, zg_T, zbI_ok, zbL_ok, zbN_ok, zite1, zite2, zite3, zem, Int.cast_ofNat_Int, and_self, and_true, true_and, or_true, true_or, or_self, ite_not, if_true, if_false, not_true_eq_false, not_false_eq_true]
    · rw [if_neg (show ¬ zht c k l h F σ U X Y i from fun x => m2 x.2)]
      simp (disch := omega) only [q27_0, q27_37, q27_38, ↓b221, zk_25, zk_27, zk_28, zk_65, zk_66, zk_67, zk_68, zk_69, zp_65_0 d1, zp_65_1 d1, zp_65_3 d1, zp_66_0 d1, zp_65_0 r2, zp_65_3 r2, zp_66_1 r2, zp_66_2 r2, zp_27_2 r2, f1, d4, p1, a1, a2, g2, g3, m1, m2, and_false, zg_pos, zI, ↓reduceIte, Int.reduceEq, Int.reduceLE, Int.reduceLT, Int.reduceAdd, Int.reduceSub, Int.reduceMul, Int.reduceNeg, zg_T, zbI_ok, zbL_ok, zbN_ok, zite1, zite2, zite3, zem, Int.cast_ofNat_Int, and_self, and_true, true_and, or_true, true_or, or_self, ite_not, if_true, if_false, not_true_eq_false, not_false_eq_true]
  · rw [if_neg (show ¬ zht c k l h F σ U X Y i from fun x => m1 x.1)]
    simp (disch := omega) only [q27_0, q27_37, q27_38, ↓b221, zk_25, zk_27, zk_28, zk_65, zk_66, zk_67, zk_68, zp_65_0 d1, zp_65_1 d1, zp_65_3 d1, zp_66_0 d1, zp_65_0 r2, zp_65_3 r2, zp_66_1 r2, zp_27_2 r2, f1, d4, p1, a1, g2, m1, false_and, zg_pos, zI, ↓reduceIte, Int.reduceEq, Int.reduceLE, Int.reduceLT, Int.reduceAdd, Int.reduceSub, Int.reduceMul, Int.reduceNeg, zg_T, zbI_ok, zbL_ok, zbN_ok, zite1, zite2, zite3, zem, Int.cast_ofNat_Int, and_self, and_true, true_and, or_true, true_or, or_self, ite_not, if_true, if_false, not_true_eq_false, not_false_eq_true]
theorem e18_l {n m : Nat} {c l wn k : Int → Int} {h F S : Int} {U X Y : Int → Int} {σ : zS} (hct : zCt c l h) (hσ : zSk c l h 0 σ) (hso : zSpo F S U) : ∀ (q : Nat) (i x1 : Int) (v : Nat) (M : zM), 0 ≤ i → i + q = S → (i < S → v ≤ (min (U i) F).toNat) → zCD M c l wn h F S U X Y → M 27 6 = (v : Int) → zSC M c l k (zit (zsp c k l h) v σ) → 0 ≤ x1 → x1 ≤ i → ∃ M', zex 18 10 [] [(2, 65), (0, x1), (0, i)] M (zKs, n, m) = some ((0, x1 + zsm (zms c k l h F σ U X Y) i q), M', (zKs, n, m)) ∧ zFc M M'
  | 0, i, x1, v, M, h0, h1, hv, hD, hu, hS, h2, h3 => by
    refine ⟨M, ?_, zFc.rfl⟩
    rw [q18_10, zg_pos (zk_65 n m), hD.2.2.2.2.1, if_pos (by omega), zsm, Int.add_zero]
  | q + 1, i, x1, v, M, h0, h1, hv, hD, hu, hS, h2, h3 => by
    have o := hso.2.1
    obtain ⟨M1, p1, p2, p3, p4⟩ := e27 (n := n) (m := m) hct hσ hso hD ⟨h0, by omega⟩ (hv (by omega)) hu hS
    obtain ⟨M2, q1, q2⟩ := e18_l (n := n) (m := m) hct hσ hso q (i + 1) (x1 + zms c k l h F σ U X Y i) _ M1 (by omega) (by omega) (fun hi => by have := hso.2.2.2 i (i + 1) h0 (by omega) hi; omega) (hD.of p4) p2 p3 (by have := zms_01 (c := c) (k := k) (l := l) (h := h) (F := F) (σ := σ) (U := U) (X := X) (Y := Y) (i := i); omega) (by have := zms_01 (c := c) (k := k) (l := l) (h := h) (F := F) (σ := σ) (U := U) (X := X) (Y := Y) (i := i); omega)
    refine ⟨M2, ?_, p4.trans q2⟩
    have e : x1 + zms c k l h F σ U X Y i + zsm (zms c k l h F σ U X Y) (i + 1) q = x1 + zsm (zms c k l h F σ U X Y) i (q + 1) := by
      rw [Int.add_assoc]; rfl
    rw [e] at q1
    rw [q18_10, zg_pos (zk_65 n m), hD.2.2.2.2.1, if_neg (by omega), zg_pos (zk_65 n m), p1, zbI_ok, ← q1]
    by_cases hi : zht c k l h F σ U X Y i
    · have z : zms c k l h F σ U X Y i = 0 := if_pos hi
      rw [if_pos hi, if_neg (by omega), q18_19, zg_pos (by unfold zI; omega), z, Int.add_zero]
    · have z : zms c k l h F σ U X Y i = 1 := if_neg hi
      rw [if_neg hi, if_pos rfl, zg_pos (by unfold zI; omega), q18_19, zg_pos (by unfold zI; omega), z]
theorem e26_l {n m : Nat} {c l wn k : Int → Int} {h F S : Int} {U X Y : Int → Int} {σ : zS} (hct : zCt c l h) (hσ : zSk c l h 0 σ) (hso : zSpo F S U) : ∀ (q : Nat) (i : Int) (v : Nat) (M : zM), 0 ≤ i → i + q = S → (i < S → v ≤ (min (U i) F).toNat) → zCD M c l wn h F S U X Y → M 27 6 = (v : Int) → zSC M c l k (zit (zsp c k l h) v σ) → ∃ M' w, zex 26 5 [] [(2, 65), (0, i)] M (zKs, n, m) = some ((0, w), M', (zKs, n, m)) ∧ zFc M M' ∧ (∀ a, 0 ≤ a → a ≤ 2 → ∀ i, 0 ≤ i → i < c a → M' (30 + a) i = k (40 * a + i)) ∧ ((w = 1 ∧ ∀ j, i ≤ j → j < S → zht c k l h F σ U X Y j) ∨ (w = 0 ∧ ¬ ∀ j, i ≤ j → j < S → zht c k l h F σ U X Y j))
  | 0, i, v, M, h0, h1, hv, hD, hu, hS => by
    refine ⟨M, 1, ?_, zFc.rfl, fun a a0 a2 => (hS.2 a a0 a2).2.2, .inl ⟨rfl, fun j j0 j1 => by omega⟩⟩
    rw [q26_5, zg_pos (zk_65 n m), hD.2.2.2.2.1, if_pos (by omega), zg_pos (by omega)]
  | q + 1, i, v, M, h0, h1, hv, hD, hu, hS => by
    have o := hso.2.1
    obtain ⟨M1, p1, p2, p3, p4⟩ := e27 (n := n) (m := m) hct hσ hso hD ⟨h0, by omega⟩ (hv (by omega)) hu hS
    by_cases hi : zht c k l h F σ U X Y i
    · rw [if_pos hi] at p1
      obtain ⟨M2, w, q1, q2, q4, q3⟩ := e26_l (n := n) (m := m) hct hσ hso q (i + 1) _ M1 (by omega) (by omega) (fun hi => by have := hso.2.2.2 i (i + 1) h0 (by omega) hi; omega) (hD.of p4) p2 p3
      refine ⟨M2, w, ?_, p4.trans q2, q4, ?_⟩
      · rw [q26_5, zg_pos (zk_65 n m), hD.2.2.2.2.1, if_neg (by omega), zg_pos (zk_65 n m), p1, zbI_ok, if_neg (by omega), zg_pos (by unfold zI; omega), q1]
      · rcases q3 with ⟨v0, q3⟩ | ⟨v0, q3⟩
        · refine .inl ⟨v0, fun j j0 j1 => ?_⟩
          by_cases ej : j = i
          · subst ej; exact hi
          · exact q3 j (by omega) j1
        · exact .inr ⟨v0, fun x => q3 (fun j j0 j1 => x j (by omega) j1)⟩
    · rw [if_neg hi] at p1
      refine ⟨M1, 0, ?_, p4, fun a a0 a2 => (p3.2 a a0 a2).2.2, .inr ⟨rfl, fun x => hi (x i (by omega) (by omega))⟩⟩
      rw [q26_5, zg_pos (zk_65 n m), hD.2.2.2.2.1, if_neg (by omega), zg_pos (zk_65 n m), p1, zbI_ok, if_pos rfl, zg_pos (by omega)]
