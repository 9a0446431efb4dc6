/-! WAYS: reckons, all of it -/
/-- the goals -/
abbrev zgl (b : Int → Int) (x y t : Int) : Prop := (0 ≤ t ∧ t < 4096) ∧ zfr b x y ∧ t / 4 = 32 * y + x
theorem e182_a {n m : Nat} {x y : Int} {d4 d5 d6 : zV} (hx : -1000000 ≤ x ∧ x ≤ 1000000) (hy : -1000000 ≤ y ∧ y ≤ 1000000) : ∀ (q : Nat) (s : Int) (P : zM), 0 ≤ s → s + q = 4096 → zPR P → ∃ P', zex 182 2 [] [(2, 178), (0, x), (0, y), (0, s), d4, d5, d6] P (zKs, n, m) = zex 182 30 [] [(2, 178), (0, x), (0, y), (0, 1), d4, d5, d6] P' (zKs, n, m) ∧ (∀ r t, (r ≠ 216 ∨ t < s ∨ 4096 ≤ t) → P' r t = P r t) ∧ ∀ t, s ≤ t → t < 4096 → P' 216 t = if zgl (P 185) x y t then 0 else -1
  | 0, s, P, h0, h1, r1 => ⟨P, by rw [q182_2, if_pos (by omega)], fun _ _ _ => rfl, fun t t0 t1 => by omega⟩
  | q + 1, s, P, h0, h1, r1 => by
    have c := e179 (n := n) (m := m) (x := x) (y := y) r1
    have s1 : zex 182 2 [] [(2, 178), (0, x), (0, y), (0, s), d4, d5, d6] P (zKs, n, m) = zex 182 2 [] [(2, 178), (0, x), (0, y), (0, s + 1), d4, d5, d6] (zu P 216 s (if zgl (P 185) x y s then 0 else -1)) (zKs, n, m) := by
      rw [q182_2, if_neg (by omega)]
      by_cases e : zfr (P 185) x y
      · rw [if_pos e] at c
        by_cases e2 : s / 4 = 32 * y + x
        · rw [if_pos (show zgl (P 185) x y s from ⟨⟨h0, by omega⟩, e, e2⟩)]
          simp (disch := omega) only [q182_25, c, e2, ztd_p, zk_178, zk_216, zp_178_59 r1, zg_pos, zI, ↓reduceIte, Int.reduceEq, Int.reduceLE, Int.reduceLT, Int.reduceAdd, Int.reduceSub, Int.reduceMul, Int.reduceNeg, zg_T, zbI_ok, zbL_ok, zbN_ok, zite1, zite2, zite3, zem, Int.cast_ofNat_Int, and_self, and_true, true_and, or_true, true_or, or_self, ite_not, if_true, if_false, not_true_eq_false, not_false_eq_true]
        · rw [if_neg (fun z : zgl (P 185) x y s => e2 z.2.2)]
          simp (disch := omega) only [q182_24, q182_25, c, e2, ztd_p, zk_178, zk_216, zp_178_59 r1, zg_pos, zI, ↓reduceIte, Int.reduceEq, Int.reduceLE, Int.reduceLT, Int.reduceAdd, Int.reduceSub, Int.reduceMul, Int.reduceNeg, zg_T, zbI_ok, zbL_ok, zbN_ok, zite1, zite2, zite3, zem, Int.cast_ofNat_Int, and_self, and_true, true_and, or_true, true_or, or_self, ite_not, if_true, if_false, not_true_eq_false, not_false_eq_true]
      · rw [if_neg e] at c
        rw [if_neg (fun z : zgl (P 185) x y s => e z.2.1)]
        simp (disch := omega) only [q182_24, q182_25, c, zk_178, zk_216, zp_178_59 r1, zg_pos, zI, ↓reduceIte, Int.reduceEq, Int.reduceLE, Int.reduceLT, Int.reduceAdd, Int.reduceSub, Int.reduceMul, Int.reduceNeg, zg_T, zbI_ok, zbL_ok, zbN_ok, zite1, zite2, zite3, zem, Int.cast_ofNat_Int, and_self, and_true, true_and, or_true, true_or, or_self, ite_not, if_true, if_false, not_true_eq_false, not_false_eq_true]
    generalize hv : (if zgl (P 185) x y s then (0 : Int) else -1) = v at s1
    have f0 : ∀ r t, (r ≠ 216 ∨ t ≠ s) → zu P 216 s v r t = P r t := fun r t hr => by
      by_cases er : r = 216
      · rw [zun2 (by omega)]
      · rw [zun er]
    have u1 : zu P 216 s v 185 = P 185 := funext fun t => f0 _ _ (by omega)
    obtain ⟨P', b1, b2, b3⟩ := e182_a (n := n) (m := m) (d4 := d4) (d5 := d5) (d6 := d6) hx hy q (s + 1) (zu P 216 s v) (by omega) (by omega) (zPR_zu r1 (zPR_row (by decide +kernel)))
    refine ⟨P', s1.trans b1, fun r t hr => by rw [b2 _ _ (by omega), f0 _ _ (by omega)], fun t t0 t1 => ?_⟩
    by_cases et : t = s
    · rw [et, b2 _ _ (by omega), zus, hv]
    · rw [b3 t (by omega) t1, u1]
theorem e182 {P : zM} {n m : Nat} {x y : Int} {d3 d4 d5 d6 : zV} (r1 : zPR P) (hh : 1 ≤ P 178 5 ∧ P 178 5 ≤ 8) (hx : -1000000 ≤ x ∧ x ≤ 1000000) (hy : -1000000 ≤ y ∧ y ≤ 1000000) : ∃ P', zex 182 0 [] [(2, 178), (0, x), (0, y), d3, d4, d5, d6] P (zKs, n, m) = some ((9, 0), P', (zKs, n, m)) ∧ zRI P' (zgl (P 185) x y) ∧ (∀ r t, (r ≠ 216 ∨ t < 0 ∨ 4096 ≤ t) → P' r t = P r t) ∧ (∀ t, P 185 (t / 4) ≠ 0 → zfF P' t = -1) ∧ ∀ t, 0 ≤ t → t < 4096 → P 185 (t / 4) = 0 → ∀ j, 0 ≤ j → j ≤ 3 → ¬ zrx (P 185) (P 178 5) (P' 216) t j := by
  obtain ⟨Q, a1, a2, a3⟩ := e182_a (n := n) (m := m) (d4 := d4) (d5 := d5) (d6 := d6) hx hy 4096 0 P (by omega) (by omega) r1
  have u1 : Q 185 = P 185 := funext fun t => a2 _ _ (by omega)
  have u2 : Q 178 5 = P 178 5 := a2 _ _ (by omega)
  have rQ : zPR Q := zPR_t (fun r y => decide (r = 216)) (by decide +kernel) r1 (fun r y hr => a2 r y (by simp at hr; omega))
  have fQ : ∀ t, zfF Q t = if zgl (P 185) x y t then 0 else -1 := fun t => by
    by_cases ht : 0 ≤ t ∧ t < 4096
    · rw [zfF_in ht, a3 t ht.1 ht.2]
    · rw [if_neg (fun z : zgl (P 185) x y t => ht z.1)]
      exact if_neg ht
  have H : zRI Q (zgl (P 185) x y) := by
    refine ⟨⟨fun t => ?_, fun t ht => ?_, fun t ht hg => ?_⟩, fun t => ?_⟩
    · rw [fQ]; split <;> omega
    · rw [fQ, if_pos ht]
    · rw [fQ, if_neg hg] at ht
      exact absurd rfl ht
    · have l := zrn0_le (f := zfF Q)
      rw [fQ]; split <;> omega
  have g := zme_ge H
  obtain ⟨P', b1, b2, b3, b4⟩ := e182_lp (n := n) (m := m) (x := x) (y := y) (zsm (zme (zfF Q)) 0 4096 + 1).toNat Q d4 d5 d6 (by omega) rQ (by rw [u2]; exact hh) H
  have u3 : P' 185 = P 185 := funext fun t => by rw [b3 _ _ (by omega), u1]
  have u4 : P' 178 5 = P 178 5 := by rw [b3 _ _ (by omega), u2]
  rw [u3, u4] at b4
  refine ⟨P', by rw [q182_0, a1, b1], b2, fun r t hr => by rw [b3 _ _ (by omega), a2 _ _ hr], fun t ht => ?_, b4⟩
  by_cases hr : 0 ≤ t ∧ t < 4096
  · rw [zfF_in hr, b3 216 t (by rw [u1]; exact .inr (.inr (.inr ht))), ← zfF_in (P := Q) hr, fQ, if_neg]
    rintro ⟨-, z1, z2⟩
    exact ht (by rw [z2]; exact z1.2.2)
  · exact if_neg hr
