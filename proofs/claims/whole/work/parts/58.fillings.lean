/-! FILLINGS, FILLING -/
theorem zpw : ∀ t : Nat, t < 21 → (3 : Int) ^ t ≤ 3486784401 ∧ 1 ≤ (3 : Int) ^ t := by decide +kernel
theorem zpwb : ∀ t : Nat, t < 20 → (3 : Int) ^ t ≤ 1162261467 := by decide +kernel
theorem zpwc : ∀ t : Nat, t < 7 → (3 : Int) ^ t ≤ 729 := by decide +kernel
theorem e20_l {g : Int} {M : zM} {X : zX} (hg : 0 ≤ g) : ∀ (q t : Nat), ((t + q : Nat) : Int) = min g 20 → zex 20 4 [] [(0, g), (1, (3 : Int) ^ t), (9, 0), (0, (t : Int))] M X = some ((1, (3 : Int) ^ (min g 20).toNat), M, X)
  | 0, t, h => by
    have e : (min g 20).toNat = t := by omega
    rw [q20_4, e]
    by_cases e1 : g ≤ (t : Int)
    · rw [if_pos e1, q20_16]
    · rw [if_neg e1, if_pos (by omega), q20_16]
  | q + 1, t, h => by
    have b := zpw (t + 1) (by omega)
    have e : (3 : Int) ^ t * 3 = (3 : Int) ^ (t + 1) := (Int.pow_succ 3 t).symm
    have := e20_l (M := M) (X := X) hg q (t + 1) (by omega)
    rw [q20_4, if_neg (by omega), if_neg (by omega), zg_pos (by rw [e]; unfold zL; omega), zg_pos (by unfold zI; omega), e]
    exact this
theorem e20 {g : Int} {M : zM} {X : zX} {d d' d'' : zV} (hg : 0 ≤ g) : zex 20 0 [] [(0, g), d, d', d''] M X = some ((1, (3 : Int) ^ (min g 20).toNat), M, X) := by
  rw [q20_0]
  exact e20_l hg (min g 20).toNat 0 (by omega)
theorem e194_l {g : Int} {M : zM} {X : zX} (hg : 0 ≤ g) : ∀ (q t : Nat), ((t + q : Nat) : Int) = min g 19 → zex 194 4 [] [(0, g), (0, (3 : Int) ^ t), (0, (t : Int))] M X = some ((0, (3 : Int) ^ (min g 19).toNat), M, X)
  | 0, t, h => by
    have e : (min g 19).toNat = t := by omega
    rw [q194_4, e]
    by_cases e1 : g ≤ (t : Int)
    · rw [if_pos e1, q194_16]
    · rw [if_neg e1, if_pos (by omega), q194_16]
  | q + 1, t, h => by
    have b := zpwb (t + 1) (by omega)
    have b1 := zpw (t + 1) (by omega)
    have e : (3 : Int) ^ t * 3 = (3 : Int) ^ (t + 1) := (Int.pow_succ 3 t).symm
    have := e194_l (M := M) (X := X) hg q (t + 1) (by omega)
    rw [q194_4, if_neg (by omega), if_neg (by omega), zg_pos (by rw [e]; unfold zI; omega), zg_pos (by unfold zI; omega), e]
    exact this
theorem e194 {g : Int} {M : zM} {X : zX} {d d' : zV} (hg : 0 ≤ g) : zex 194 0 [] [(0, g), d, d'] M X = some ((0, (3 : Int) ^ (min g 19).toNat), M, X) := by
  rw [q194_0]
  exact e194_l hg (min g 19).toNat 0 (by omega)
/-- so many below n -/
noncomputable def zct (A : Int → Prop) : Nat → Int
  | 0 => 0
  | n + 1 => zct A n + @ite Int (A n) (Classical.propDecidable _) 1 0
theorem zct_y {A : Int → Prop} {n : Nat} (h : A n) : zct A (n + 1) = zct A n + 1 := by
  show zct A n + @ite Int (A n) (Classical.propDecidable _) 1 0 = _
  rw [if_pos h]
theorem zct_n {A : Int → Prop} {n : Nat} (h : ¬ A n) : zct A (n + 1) = zct A n := by
  show zct A n + @ite Int (A n) (Classical.propDecidable _) 1 0 = _
  rw [if_neg h, Int.add_zero]
theorem zct_le {A : Int → Prop} : ∀ n : Nat, 0 ≤ zct A n ∧ zct A n ≤ n
  | 0 => ⟨Int.le_refl _, Int.le_refl _⟩
  | n + 1 => by
    have := zct_le (A := A) n
    by_cases h : A n
    · rw [zct_y h]; omega
    · rw [zct_n h]; omega
theorem zct_mono {A : Int → Prop} {n : Nat} : ∀ m : Nat, zct A n ≤ zct A (n + m)
  | 0 => Int.le_refl _
  | m + 1 => by
    have := zct_mono (A := A) (n := n) m
    rw [← Nat.add_assoc]
    by_cases h : A ((n + m : Nat) : Int)
    · rw [zct_y h]; omega
    · rw [zct_n h]; omega
theorem zct_lt {A : Int → Prop} {f n : Nat} (h : f < n) (hA : A f) : zct A f < zct A n := by
  have := zct_mono (A := A) (n := f + 1) (n - (f + 1))
  rw [zct_y hA, show f + 1 + (n - (f + 1)) = n by omega] at this
  omega
theorem zct_ex {A : Int → Prop} : ∀ (n : Nat) (i : Int), 0 ≤ i → i < zct A n → ∃ f : Nat, f < n ∧ A f ∧ zct A f = i
  | 0, i, h0, h1 => by
    have e : zct A 0 = 0 := rfl
    omega
  | n + 1, i, h0, h1 => by
    by_cases h : A n
    · rw [zct_y h] at h1
      by_cases e : i = zct A n
      · exact ⟨n, by omega, h, e.symm⟩
      · obtain ⟨f, f1, f2, f3⟩ := zct_ex (A := A) n i h0 (by omega)
        exact ⟨f, by omega, f2, f3⟩
    · rw [zct_n h] at h1
      obtain ⟨f, f1, f2, f3⟩ := zct_ex (A := A) n i h0 h1
      exact ⟨f, by omega, f2, f3⟩
/-- what the class found among the first n -/
def zFo (M : zM) (A : Int → Prop) (V : Int → Int) (n : Nat) : Prop := M 65 11 = zct A n ∧ ∀ f : Nat, f < n → A f → M 74 (zct A f) = V f
theorem zcmp_ge {a b : Int} : (0 ≤ zcmp a b) = (b ≤ a) := by
  unfold zcmp
  apply propext
  by_cases h : b < a
  · rw [if_pos h]; omega
  · rw [if_neg h]
    by_cases h2 : a = b
    · rw [if_pos h2]; omega
    · rw [if_neg h2]; omega
theorem e28 {M : zM} {n m : Nat} {x : Int} (r0 : zPC M) (h : 0 ≤ M 65 11 ∧ M 65 11 < 729) : zex 28 0 [] [(2, 65), (0, x)] M (zKs, n, m) = some ((9, 0), zu (zu M 74 (M 65 11) x) 65 11 (M 65 11 + 1), (zKs, n, m)) := by
  have h2 : ¬ 729 ≤ M 65 11 := by omega
  simp (disch := omega) only [q28_0, q28_16, h2, zk_65, zk_74, zp_65_10 r0, zun, zg_pos, zI, ↓reduceIte, Int.reduceEq, Int.reduceLE, Int.reduceLT, Int.reduceAdd, Int.reduceSub, Int.reduceMul, Int.reduceNeg, zg_T, zbI_ok, zbL_ok, zbN_ok, zite1, zite2, zite3, zem, Int.cast_ofNat_Int, and_self, and_true, true_and, or_true, true_or, or_self, ite_not, if_true, if_false, not_true_eq_false, not_false_eq_true]
theorem zFo_y {M M' : zM} {A : Int → Prop} {V : Int → Int} {n : Nat} (h : zFo M A V n) (hA : A n) (h1 : M' 65 11 = M 65 11 + 1) (h2 : M' 74 (M 65 11) = V n) (h3 : ∀ t, t ≠ M 65 11 → M' 74 t = M 74 t) : zFo M' A V (n + 1) := by
  obtain ⟨f1, f2⟩ := h
  refine ⟨by rw [h1, f1, zct_y hA], fun f hf hAf => ?_⟩
  by_cases e : f = n
  · rw [e, ← f1, h2]
  · have := zct_lt (A := A) (f := f) (n := n) (by omega) hAf
    rw [h3 _ (by omega)]
    exact f2 f (by omega) hAf
theorem zFo_n {M M' : zM} {A : Int → Prop} {V : Int → Int} {n : Nat} (h : zFo M A V n) (hA : ¬ A n) (h1 : M' 65 11 = M 65 11) (h3 : ∀ t, M' 74 t = M 74 t) : zFo M' A V (n + 1) := by
  obtain ⟨f1, f2⟩ := h
  refine ⟨by rw [h1, f1, zct_n hA], fun f hf hAf => ?_⟩
  by_cases e : f = n
  · subst e; exact absurd hAf hA
  · rw [h3]
    exact f2 f (by omega) hAf
/-- a filling agrees -/
def zAf (P : zM) (f : Int) : Prop := zAll (P 179) (zkf (P 179) (P 180) f) (P 181) (P 178 5) (P 178 16) (P 178 21) (zs0 (P 178 10) (P 178 11) (P 178 12)) (P 190) (P 191) (P 192)
theorem zRel.cle {q : Int} {M P : zM} (h : zRel q M P) : ∀ a, 0 ≤ a → a ≤ 2 → 0 ≤ P 179 a ∧ P 179 a ≤ 40 := fun a h0 h2 => (h.cr.1 a h0 h2).2
theorem zRel.st {q : Int} {M P : zM} (h : zRel q M P) : M 17 0 = 1000 * P 178 10 + 500 ∧ M 17 1 = 1000 * P 178 11 + 500 ∧ M 17 2 = P 178 12 ∧ M 17 3 = 0 ∧ M 17 4 = 0 := by
  obtain ⟨s0, s1, s2, s3, s4, -⟩ := h.2.2.2.2.2.1
  exact ⟨s0, s1, s2, s3, s4⟩
/-- one number of the class's loop -/
theorem e21_b {q : Int} {M P : zM} {n m : Nat} {x1 : Int} {f : Nat} (h : zRel q M P) (hG : zrG (P 179) (P 180) ≤ 6) (hf : f < 729) (hL : zGL M (P 179) (P 180)) (hS : zKS M (P 179) (P 180) 0 0) (hF : zFo M (zAf P) (fun x => x) f) : ∃ M' e e', zex 21 27 [] [(2, 65), (1, x1), (9, 0), (0, (f : Int)), (0, (f : Int)), (0, 0)] M (zKs, n, m) = zex 21 14 [] [(2, 65), (1, x1), (9, 0), (0, (f : Int) + 1), e, e'] M' (zKs, n, m) ∧ zGL M' (P 179) (P 180) ∧ zKS M' (P 179) (P 180) 0 0 ∧ zFo M' (zAf P) (fun x => x) (f + 1) ∧ zFd M M' := by
  have hc := h.cle
  have hc0 : 0 ≤ zrG (P 179) (P 180) := zrk_nn
  obtain ⟨A, a1, a2, a3⟩ := e21_f (n := n) (m := m) (c := P 179) (k := P 180) (N := (f : Int)) (x1 := x1) (by omega) hG hc (zrG (P 179) (P 180)).toNat 0 M (by omega) (by omega) h.1.1 hL (fun a i a0 a2 i0 i1 => ⟨(hS a i a0 a2 i0 i1).1, fun _ y => by have := zrk_nn (c := P 179) (k := P 180) (a := a) (i := i); omega⟩)
  have fA : zFd M A := fun r y hr => a3 r y (by omega)
  have hA := h.run2 fA (zFs.rfl (P := P))
  have kA := a2.kf hc
  obtain ⟨B, w, b1, b2, b3, b4⟩ := e26 (n := n) (m := m) (d := (9, 0)) (k := zkf (P 179) (P 180) f) h.ct h.s0 h.sp hA.cd hA.st kA
  have z0 : zdv (0 : Int).toNat (f : Int) = f := rfl
  rw [z0] at a1
  have gA : A 65 4 = zrG (P 179) (P 180) := by rw [a3 _ _ (by omega)]; exact hL.1
  have fB : zFd M B := fA.trans b2.d
  have LB : ∀ Q : zM, (∀ r y, (r = 70 ∨ r = 71 ∨ (r = 65 ∧ y = 4)) → Q r y = M r y) → zGL Q (P 179) (P 180) := fun Q hQ => ⟨by rw [hQ _ _ (by omega)]; exact hL.1, fun t t0 t1 => by rw [hQ _ _ (by omega), hQ _ _ (by omega)]; exact hL.2.1 t t0 t1, fun b j b0 b2 j0 j1 hg => by rw [hQ _ _ (by omega), hQ _ _ (by omega)]; exact hL.2.2 b j b0 b2 j0 j1 hg⟩
  have SB : ∀ Q : zM, (∀ r y, (30 ≤ r ∧ r ≤ 32) → Q r y = B r y) → zKS Q (P 179) (P 180) 0 0 := fun Q hQ a i a0 a2 i0 i1 => by
    refine ⟨fun x => ?_, fun _ y => by have := zrk_nn (c := P 179) (k := P 180) (a := a) (i := i); omega⟩
    have := hc a a0 a2
    rw [hQ _ _ (by omega), b3 a a0 a2 i i0 i1, zkf_at (by omega), if_neg (fun y => x y.2)]
  have mB : ∀ r y, (r = 70 ∨ r = 71 ∨ r = 74 ∨ r = 65) → B r y = M r y := fun r y hr => by rw [b2 _ _ (by omega), a3 _ _ (by omega)]
  have ct := zct_le (A := zAf P) f
  rcases b4 with ⟨rfl, b4⟩ | ⟨rfl, b4⟩
  · have hb := mB 65 11 (by omega)
    have e1 := e28 (n := n) (m := m) (x := (f : Int)) (fB.pc h.1.1) (by rw [hb, hF.1]; omega)
    refine ⟨zu (zu B 74 (B 65 11) f) 65 11 (B 65 11 + 1), (0, zdv (zrG (P 179) (P 180)).toNat f), (0, zrG (P 179) (P 180)), ?_, LB _ (fun r y hr => ?_), SB _ (fun r y hr => ?_), zFo_y hF b4 ?_ ?_ (fun t ht => ?_), (fB.zu (by omega)).zu (by omega)⟩
    · rw [a1, q21_27, zg_pos (zk_65 n m), gA, if_pos (Int.le_refl _)]
      simp (disch := omega) only [b1, e1, q21_59, zk_65, zg_pos, zI, ↓reduceIte, Int.reduceEq, Int.reduceLE, Int.reduceLT, Int.reduceAdd, Int.reduceSub, Int.reduceMul, Int.reduceNeg, zg_T, zbI_ok, zbL_ok, zbN_ok, zite1, zite2, zite3, zem, Int.cast_ofNat_Int, and_self, and_true, true_and, or_true, true_or, or_self, ite_not, if_true, if_false, not_true_eq_false, not_false_eq_true]
    · by_cases e : r = 65
      · rw [zun2 (by omega), zun (by omega), mB _ _ (by omega)]
      · rw [zun e, zun (by omega), mB _ _ (by omega)]
    · rw [zun (by omega), zun (by omega)]
    · rw [zus, hb]
    · rw [zun (by omega), ← hb, zus]
    · rw [zun (by omega), zun2 (by rw [hb]; exact ht), mB _ _ (by omega)]
  · refine ⟨B, (0, zdv (zrG (P 179) (P 180)).toNat f), (0, zrG (P 179) (P 180)), ?_, LB _ (fun r y hr => mB _ _ (by omega)), SB _ (fun r y hr => rfl), zFo_n hF b4 (mB _ _ (by omega)) (fun t => mB _ _ (by omega)), fB⟩
    · rw [a1, q21_27, zg_pos (zk_65 n m), gA, if_pos (Int.le_refl _)]
      simp (disch := omega) only [b1, q21_59, zk_65, zg_pos, zI, ↓reduceIte, Int.reduceEq, Int.reduceLE, Int.reduceLT, Int.reduceAdd, Int.reduceSub, Int.reduceMul, Int.reduceNeg, zg_T, zbI_ok, zbL_ok, zbN_ok, zite1, zite2, zite3, zem, Int.cast_ofNat_Int, and_self, and_true, true_and, or_true, true_or, or_self, ite_not, if_true, if_false, not_true_eq_false, not_false_eq_true]
theorem e21_l {q : Int} {P : zM} {n m : Nat} {N : Nat} (hN : N ≤ 729) (hG : zrG (P 179) (P 180) ≤ 6) : ∀ (z f : Nat) (M : zM) (e e' : zV), f + z = N → zRel q M P → zGL M (P 179) (P 180) → zKS M (P 179) (P 180) 0 0 → zFo M (zAf P) (fun x => x) f → ∃ M', zex 21 14 [] [(2, 65), (1, (N : Int)), (9, 0), (0, (f : Int)), e, e'] M (zKs, n, m) = some ((9, 0), M', (zKs, n, m)) ∧ zFo M' (zAf P) (fun x => x) N ∧ zFd M M'
  | 0, f, M, e, e', hz, h, hL, hS, hF => by
    have : f = N := by omega
    subst this
    refine ⟨M, ?_, hF, zFd.rfl⟩
    rw [q21_14]
    simp only [zcmp_ge]
    rw [if_pos (Int.le_refl _), q21_61]
  | z + 1, f, M, e, e', hz, h, hL, hS, hF => by
    obtain ⟨A, x, x', a1, a2, a3, a4, a5⟩ := e21_b (n := n) (m := m) (x1 := (N : Int)) h hG (by omega) hL hS hF
    have ct := zct_le (A := zAf P) f
    obtain ⟨B, b1, b2, b3⟩ := e21_l (n := n) (m := m) hN hG z (f + 1) A x x' (by omega) (h.run2 a5 zFs.rfl) a2 a3 a4
    refine ⟨B, ?_, b2, a5.trans b3⟩
    rw [q21_14]
    simp only [zcmp_ge]
    rw [if_neg (by omega), zg_pos (zk_65 n m), hF.1, if_neg (by omega), a1]
    exact b1
