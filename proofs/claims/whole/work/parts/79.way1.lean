/-! WAYS: the reference's states and moves -/
/-- a free cell of the floor b -/
abbrev zfr (b : Int → Int) (x y : Int) : Prop := (0 ≤ x ∧ x ≤ 31) ∧ (0 ≤ y ∧ y ≤ 31) ∧ b (32 * y + x) = 0
def zax (q : Int) : Int := if q = 0 then 1 else if q = 2 then -1 else 0
def zay (q : Int) : Int := if q = 1 then 1 else if q = 3 then -1 else 0
theorem zax_le (q : Int) : (-1 ≤ zax q ∧ zax q ≤ 1) ∧ -1 ≤ zay q ∧ zay q ≤ 1 := by
  unfold zax zay
  split <;> split <;> (try split) <;> (try split) <;> omega
/-- a state is 4 * cell + quarter; where move m leads (0 ahead, 1 back, 2 and 3 turns), -1 nowhere -/
def zmd (m : Int) : Int := if m = 0 then 1 else -1
def zmv (b : Int → Int) (s m : Int) : Int := if m ≤ 1 then (if zfr b (s / 4 % 32 + zmd m * zax (s % 4)) (s / 4 / 32 + zmd m * zay (s % 4)) then 4 * (32 * (s / 4 / 32 + zmd m * zay (s % 4)) + (s / 4 % 32 + zmd m * zax (s % 4))) + s % 4 else -1) else s - s % 4 + (s % 4 + (if m = 2 then 1 else 3)) % 4
def zpm (h m : Int) : Int := if 2 ≤ m then 4 * h else 1
theorem e179 {P : zM} {n m : Nat} {x y : Int} (r1 : zPR P) : zex 179 0 [] [(2, 178), (0, x), (0, y)] P (zKs, n, m) = some ((0, if zfr (P 185) x y then 1 else 0), P, (zKs, n, m)) := by
  have a3 := e153 x y P (zKs, n, m)
  by_cases hf : (0 ≤ x ∧ x ≤ 31) ∧ 0 ≤ y ∧ y ≤ 31
  · rw [if_pos hf] at a3
    by_cases e : P 185 (32 * y + x) = 0
    · rw [if_pos ⟨hf.1, hf.2, e⟩]
      simp (disch := omega) only [q179_0, q179_16, a3, e, zk_178, zk_185, zp_178_9 r1, zg_pos, zI, ↓reduceIte, Int.reduceEq, Int.reduceLE, Int.reduceLT, Int.reduceAdd, Int.reduceSub, Int.reduceMul, Int.reduceNeg, zg_T, zbI_ok, zbL_ok, zbN_ok, zite1, zite2, zite3, zem, Int.cast_ofNat_Int, and_self, and_true, true_and, or_true, true_or, or_self, ite_not, if_true, if_false, not_true_eq_false, not_false_eq_true]
    · rw [if_neg (fun c => e c.2.2)]
      simp (disch := omega) only [q179_0, q179_15, q179_16, a3, e, zk_178, zk_185, zp_178_9 r1, zg_pos, zI, ↓reduceIte, Int.reduceEq, Int.reduceLE, Int.reduceLT, Int.reduceAdd, Int.reduceSub, Int.reduceMul, Int.reduceNeg, zg_T, zbI_ok, zbL_ok, zbN_ok, zite1, zite2, zite3, zem, Int.cast_ofNat_Int, and_self, and_true, true_and, or_true, true_or, or_self, ite_not, if_true, if_false, not_true_eq_false, not_false_eq_true]
  · rw [if_neg hf] at a3
    rw [if_neg (fun c => hf ⟨c.1, c.2.1⟩)]
    simp (disch := omega) only [q179_0, q179_15, q179_16, a3, zg_pos, zI, ↓reduceIte, Int.reduceEq, Int.reduceLE, Int.reduceLT, Int.reduceAdd, Int.reduceSub, Int.reduceMul, Int.reduceNeg, zg_T, zbI_ok, zbL_ok, zbN_ok, zite1, zite2, zite3, zem, Int.cast_ofNat_Int, and_self, and_true, true_and, or_true, true_or, or_self, ite_not, if_true, if_false, not_true_eq_false, not_false_eq_true]
theorem e181 {P : zM} {n m : Nat} {k : Int} (hh : 1 ≤ P 178 5 ∧ P 178 5 ≤ 8) : zex 181 0 [] [(2, 178), (0, k)] P (zKs, n, m) = some ((0, zpm (P 178 5) k), P, (zKs, n, m)) := by
  unfold zpm
  by_cases e : 2 ≤ k
  · simp (disch := omega) only [q181_0, q181_9, e, zk_178, zg_pos, zI, ↓reduceIte, Int.reduceEq, Int.reduceLE, Int.reduceLT, Int.reduceAdd, Int.reduceSub, Int.reduceMul, Int.reduceNeg, zg_T, zbI_ok, zbL_ok, zbN_ok, zite1, zite2, zite3, zem, Int.cast_ofNat_Int, and_self, and_true, true_and, or_true, true_or, or_self, ite_not, if_true, if_false, not_true_eq_false, not_false_eq_true]
  · simp (disch := omega) only [q181_0, q181_9, e, zk_178, zg_pos, zI, ↓reduceIte, Int.reduceEq, Int.reduceLE, Int.reduceLT, Int.reduceAdd, Int.reduceSub, Int.reduceMul, Int.reduceNeg, zg_T, zbI_ok, zbL_ok, zbN_ok, zite1, zite2, zite3, zem, Int.cast_ofNat_Int, and_self, and_true, true_and, or_true, true_or, or_self, ite_not, if_true, if_false, not_true_eq_false, not_false_eq_true]
theorem e177 {q : Int} {M : zM} {X : zX} : zex 177 0 [] [(0, q)] M X = some ((0, zax q), M, X) := by
  unfold zax
  by_cases e : q = 0
  · simp only [q177_0, q177_10, e, ↓reduceIte, Int.reduceEq, Int.reduceLE, Int.reduceLT, Int.reduceAdd, Int.reduceSub, Int.reduceMul, Int.reduceNeg, zg_T, zbI_ok, zbL_ok, zbN_ok, zite1, zite2, zite3, zem, Int.cast_ofNat_Int, and_self, and_true, true_and, or_true, true_or, or_self, ite_not, if_true, if_false, not_true_eq_false, not_false_eq_true]
  · by_cases e2 : q = 2 <;> simp only [q177_0, q177_10, e, e2, ↓reduceIte, Int.reduceEq, Int.reduceLE, Int.reduceLT, Int.reduceAdd, Int.reduceSub, Int.reduceMul, Int.reduceNeg, zg_T, zbI_ok, zbL_ok, zbN_ok, zite1, zite2, zite3, zem, Int.cast_ofNat_Int, and_self, and_true, true_and, or_true, true_or, or_self, ite_not, if_true, if_false, not_true_eq_false, not_false_eq_true]
theorem e178 {q : Int} {M : zM} {X : zX} : zex 178 0 [] [(0, q)] M X = some ((0, zay q), M, X) := by
  unfold zay
  by_cases e : q = 1
  · simp only [q178_0, q178_11, e, ↓reduceIte, Int.reduceEq, Int.reduceLE, Int.reduceLT, Int.reduceAdd, Int.reduceSub, Int.reduceMul, Int.reduceNeg, zg_T, zbI_ok, zbL_ok, zbN_ok, zite1, zite2, zite3, zem, Int.cast_ofNat_Int, and_self, and_true, true_and, or_true, true_or, or_self, ite_not, if_true, if_false, not_true_eq_false, not_false_eq_true]
  · by_cases e2 : q = 3 <;> simp only [q178_0, q178_11, e, e2, ↓reduceIte, Int.reduceEq, Int.reduceLE, Int.reduceLT, Int.reduceAdd, Int.reduceSub, Int.reduceMul, Int.reduceNeg, zg_T, zbI_ok, zbL_ok, zbN_ok, zite1, zite2, zite3, zem, Int.cast_ofNat_Int, and_self, and_true, true_and, or_true, true_or, or_self, ite_not, if_true, if_false, not_true_eq_false, not_false_eq_true]
theorem e180 {P : zM} {n m : Nat} {s k : Int} {d3 d4 d5 d6 d7 d8 : zV} (r1 : zPR P) (hs : 0 ≤ s ∧ s < 4096) (hk : 0 ≤ k ∧ k ≤ 3) : zex 180 0 [] [(2, 178), (0, s), (0, k), d3, d4, d5, d6, d7, d8] P (zKs, n, m) = some ((0, zmv (P 185) s k), P, (zKs, n, m)) := by
  obtain ⟨⟨x1, x2⟩, y1, y2⟩ := zax_le (s % 4)
  unfold zmv
  by_cases e : k ≤ 1
  · rw [if_pos e]
    have key : ∀ v : Int, (v = 1 ∨ v = -1) → zex 180 39 [(0, v)] [(2, 178), (0, s), (0, k), (0, s % 4), (0, s / 4 % 32), (0, s / 4 / 32), d6, d7, d8] P (zKs, n, m) = some ((0, if zfr (P 185) (s / 4 % 32 + v * zax (s % 4)) (s / 4 / 32 + v * zay (s % 4)) then 4 * (32 * (s / 4 / 32 + v * zay (s % 4)) + (s / 4 % 32 + v * zax (s % 4))) + s % 4 else -1), P, (zKs, n, m)) := fun v hv => by
      have hx : (-1 ≤ v * zax (s % 4) ∧ v * zax (s % 4) ≤ 1) ∧ -1 ≤ v * zay (s % 4) ∧ v * zay (s % 4) ≤ 1 := by
        rcases hv with rfl | rfl <;> omega
      have c := e179 (n := n) (m := m) (x := s / 4 % 32 + v * zax (s % 4)) (y := s / 4 / 32 + v * zay (s % 4)) r1
      rw [q180_39, e177, zbI_ok, zg_pos (by unfold zI; omega), zg_pos (by unfold zI; omega), e178, zbI_ok, zg_pos (by unfold zI; omega), zg_pos (by unfold zI; omega), zg_pos (zk_178 n m), c, zbI_ok]
      by_cases f : zfr (P 185) (s / 4 % 32 + v * zax (s % 4)) (s / 4 / 32 + v * zay (s % 4))
      · obtain ⟨f1, f2, f3⟩ := id f
        simp only [if_pos f]
        rw [if_neg (by omega), zg_pos (by unfold zI; omega), zg_pos (by unfold zI; omega), zg_pos (by unfold zI; omega), zg_pos (by unfold zI; omega), q180_70]
      · simp only [if_neg f]
        rw [if_pos trivial, q180_70]
    unfold zmd
    by_cases e0 : k = 0
    · have := key 1 (.inl rfl)
      rw [q180_0]
      simp (disch := omega) only [ztd_p, ztm_p, e, e0, zg_pos, ↓reduceIte, Int.reduceEq, Int.reduceLE, Int.reduceLT, Int.reduceAdd, Int.reduceSub, Int.reduceMul, Int.reduceNeg, zg_T, zbI_ok, zbL_ok, zbN_ok, zite1, zite2, zite3, zem, Int.cast_ofNat_Int, and_self, and_true, true_and, or_true, true_or, or_self, ite_not, if_true, if_false, not_true_eq_false, not_false_eq_true]
      rw [e0] at this
      exact this
    · have := key (-1) (.inr rfl)
      rw [q180_0]
      simp (disch := omega) only [ztd_p, ztm_p, e, e0, zg_pos, ↓reduceIte, Int.reduceEq, Int.reduceLE, Int.reduceLT, Int.reduceAdd, Int.reduceSub, Int.reduceMul, Int.reduceNeg, zg_T, zbI_ok, zbL_ok, zbN_ok, zite1, zite2, zite3, zem, Int.cast_ofNat_Int, and_self, and_true, true_and, or_true, true_or, or_self, ite_not, if_true, if_false, not_true_eq_false, not_false_eq_true]
      exact this
  · rw [if_neg e]
    have e2 : k = 2 ∨ k = 3 := by omega
    rcases e2 with rfl | rfl
    · rw [q180_0]
      simp (disch := omega) only [q180_29, ztd_p, ztm_p, zg_pos, zI, ↓reduceIte, Int.reduceEq, Int.reduceLE, Int.reduceLT, Int.reduceAdd, Int.reduceSub, Int.reduceMul, Int.reduceNeg, zg_T, zbI_ok, zbL_ok, zbN_ok, zite1, zite2, zite3, zem, Int.cast_ofNat_Int, and_self, and_true, true_and, or_true, true_or, or_self, ite_not, if_true, if_false, not_true_eq_false, not_false_eq_true]
    · rw [q180_0]
      simp (disch := omega) only [q180_29, ztd_p, ztm_p, zg_pos, zI, ↓reduceIte, Int.reduceEq, Int.reduceLE, Int.reduceLT, Int.reduceAdd, Int.reduceSub, Int.reduceMul, Int.reduceNeg, zg_T, zbI_ok, zbL_ok, zbN_ok, zite1, zite2, zite3, zem, Int.cast_ofNat_Int, and_self, and_true, true_and, or_true, true_or, or_self, ite_not, if_true, if_false, not_true_eq_false, not_false_eq_true]
theorem zmv_le {b : Int → Int} {s k : Int} (hs : 0 ≤ s ∧ s < 4096) (hk : 0 ≤ k ∧ k ≤ 3) : -1 ≤ zmv b s k ∧ zmv b s k < 4096 := by
  unfold zmv
  split
  · split
    · rename_i f
      obtain ⟨f1, f2, f3⟩ := f
      omega
    · omega
  · omega
