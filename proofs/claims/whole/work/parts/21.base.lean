/-! BASE: facts that every method's equation stands on; the programs that only count -/
theorem zite1 {c : Prop} {d : Decidable c} : ((@ite Int c d 1 0) = 0) = ¬ c := by
  by_cases h : c <;> simp [h]
theorem zite2 {c : Prop} {d : Decidable c} : ((@ite Int c d 1 0) = 0 ∨ (@ite Int c d 1 0) = 1) = True := by
  by_cases h : c <;> simp [h]
theorem zite3 {c : Prop} {d : Decidable c} : ((@ite Int c d 1 0) = 1) = c := by
  by_cases h : c <;> simp [h]
theorem znc {n : Nat} : ((@OfNat.ofNat Nat n (instOfNatNat n) : Nat) : Int) = @OfNat.ofNat Int n (@instOfNat n) := rfl
theorem zem {c : Prop} : (¬ c ∨ c) = True := by
  by_cases h : c <;> simp [h]
theorem e133 (a b c : Int) (M : zM) (X : zX) : zex 133 0 [] [(0, a), (0, b), (0, c)] M X = some ((0, if b ≤ a ∧ a ≤ c then 1 else 0), M, X) := by
  rw [q133_0]
  split
  · rw [q133_8, q133_9, if_neg (by omega)]; rfl
  · split
    · rw [q133_8, q133_9, if_neg (by omega)]; rfl
    · rw [q133_9, if_pos (by omega)]; rfl
theorem e143 (a b c : Int) (M : zM) (X : zX) : zex 143 0 [] [(0, a), (0, b), (0, c)] M X = some ((0, if b ≤ a ∧ a ≤ c then 1 else 0), M, X) := by
  rw [q143_0]
  split
  · rw [q143_8, q143_9, if_neg (by omega)]; rfl
  · split
    · rw [q143_8, q143_9, if_neg (by omega)]; rfl
    · rw [q143_9, if_pos (by omega)]; rfl
theorem e134 (a : Int) (M : zM) (X : zX) : zex 134 0 [] [(0, a)] M X = some ((0, if 0 ≤ a ∧ a ≤ 2 then 1 else 0), M, X) := by
  simp only [q134_0, e133, ↓reduceIte, Int.reduceEq, Int.reduceLE, Int.reduceLT, Int.reduceAdd, Int.reduceSub, Int.reduceMul, Int.reduceNeg, zg_T, zbI_ok, zbL_ok, zbN_ok, zite1, zite2, zite3, zem, Int.cast_ofNat_Int, and_self, and_true, true_and, or_true, true_or, or_self, ite_not, if_true, if_false, not_true_eq_false, not_false_eq_true, zite2]
theorem e136 (a : Int) (M : zM) (X : zX) : zex 136 0 [] [(0, a)] M X = some ((0, if 0 ≤ a ∧ a ≤ 5 then 1 else 0), M, X) := by
  simp only [q136_0, e133, ↓reduceIte, Int.reduceEq, Int.reduceLE, Int.reduceLT, Int.reduceAdd, Int.reduceSub, Int.reduceMul, Int.reduceNeg, zg_T, zbI_ok, zbL_ok, zbN_ok, zite1, zite2, zite3, zem, Int.cast_ofNat_Int, and_self, and_true, true_and, or_true, true_or, or_self, ite_not, if_true, if_false, not_true_eq_false, not_false_eq_true, zite2]
theorem e146 (a : Int) (M : zM) (X : zX) : zex 146 0 [] [(0, a)] M X = some ((0, if 0 ≤ a ∧ a ≤ 2 then 1 else 0), M, X) := by
  simp only [q146_0, e143, ↓reduceIte, Int.reduceEq, Int.reduceLE, Int.reduceLT, Int.reduceAdd, Int.reduceSub, Int.reduceMul, Int.reduceNeg, zg_T, zbI_ok, zbL_ok, zbN_ok, zite1, zite2, zite3, zem, Int.cast_ofNat_Int, and_self, and_true, true_and, or_true, true_or, or_self, ite_not, if_true, if_false, not_true_eq_false, not_false_eq_true, zite2]
theorem e207 (a : Int) (M : zM) (X : zX) : zex 207 0 [] [(0, a)] M X = some ((0, if 0 ≤ a ∧ a ≤ 5 then 1 else 0), M, X) := by
  simp only [q207_0, e143, ↓reduceIte, Int.reduceEq, Int.reduceLE, Int.reduceLT, Int.reduceAdd, Int.reduceSub, Int.reduceMul, Int.reduceNeg, zg_T, zbI_ok, zbL_ok, zbN_ok, zite1, zite2, zite3, zem, Int.cast_ofNat_Int, and_self, and_true, true_and, or_true, true_or, or_self, ite_not, if_true, if_false, not_true_eq_false, not_false_eq_true, zite2]
theorem e135 (a b : Int) (M : zM) (X : zX) : zex 135 0 [] [(0, a), (0, b)] M X = some ((0, if (0 ≤ a ∧ a ≤ 31) ∧ 0 ≤ b ∧ b ≤ 31 then 1 else 0), M, X) := by
  simp only [q135_0, q135_12, q135_13, e133, ↓reduceIte, Int.reduceEq, Int.reduceLE, Int.reduceLT, Int.reduceAdd, Int.reduceSub, Int.reduceMul, Int.reduceNeg, zg_T, zbI_ok, zbL_ok, zbN_ok, zite1, zite2, zite3, zem, Int.cast_ofNat_Int, and_self, and_true, true_and, or_true, true_or, or_self, ite_not, if_true, if_false, not_true_eq_false, not_false_eq_true]
  by_cases h1 : 0 ≤ a ∧ a ≤ 31 <;> by_cases h2 : 0 ≤ b ∧ b ≤ 31 <;> simp only [h1, h2, ↓reduceIte, Int.reduceEq, Int.reduceLE, Int.reduceLT, Int.reduceAdd, Int.reduceSub, Int.reduceMul, Int.reduceNeg, zg_T, zbI_ok, zbL_ok, zbN_ok, zite1, zite2, zite3, zem, Int.cast_ofNat_Int, and_self, and_true, true_and, or_true, true_or, or_self, ite_not, if_true, if_false, not_true_eq_false, not_false_eq_true]
theorem e153 (a b : Int) (M : zM) (X : zX) : zex 153 0 [] [(0, a), (0, b)] M X = some ((0, if (0 ≤ a ∧ a ≤ 31) ∧ 0 ≤ b ∧ b ≤ 31 then 1 else 0), M, X) := by
  simp only [q153_0, q153_12, q153_13, e143, ↓reduceIte, Int.reduceEq, Int.reduceLE, Int.reduceLT, Int.reduceAdd, Int.reduceSub, Int.reduceMul, Int.reduceNeg, zg_T, zbI_ok, zbL_ok, zbN_ok, zite1, zite2, zite3, zem, Int.cast_ofNat_Int, and_self, and_true, true_and, or_true, true_or, or_self, ite_not, if_true, if_false, not_true_eq_false, not_false_eq_true]
  by_cases h1 : 0 ≤ a ∧ a ≤ 31 <;> by_cases h2 : 0 ≤ b ∧ b ≤ 31 <;> simp only [h1, h2, ↓reduceIte, Int.reduceEq, Int.reduceLE, Int.reduceLT, Int.reduceAdd, Int.reduceSub, Int.reduceMul, Int.reduceNeg, zg_T, zbI_ok, zbL_ok, zbN_ok, zite1, zite2, zite3, zem, Int.cast_ofNat_Int, and_self, and_true, true_and, or_true, true_or, or_self, ite_not, if_true, if_false, not_true_eq_false, not_false_eq_true]
theorem e221 (a b : Int) (M : zM) (X : zX) : zex 221 0 [] [(0, a), (0, b)] M X = some ((0, min a b), M, X) := by
  rw [q221_0]
  split
  · rw [q221_6, show min a b = b by omega]
  · rw [q221_6, show min a b = a by omega]
theorem ztd_p {a b : Int} (h : 0 ≤ a) : Int.tdiv a b = a / b := Int.tdiv_eq_ediv_of_nonneg h
theorem ztm_p {a b : Int} (h : 0 ≤ a) : Int.tmod a b = a % b := Int.tmod_eq_emod_of_nonneg h
theorem ztd_n {a b : Int} (h : a < 0) : Int.tdiv a b = -((-a) / b) := by
  have := Int.neg_tdiv (a := -a) (b := b)
  rw [Int.neg_neg] at this
  rw [this, Int.tdiv_eq_ediv_of_nonneg (by omega)]
theorem e166 (x : Int) (d : zV) (M : zM) (X : zX) (h : zI x) : zex 166 0 [] [(0, x), d] M X = some ((0, x / 1000), M, X) := by
  have h' : -2147483648 ≤ x ∧ x ≤ 2147483647 := h
  by_cases hx : 0 ≤ x
  · simp (disch := omega) only [q166_0, q166_14, ztd_p, zI, zg_pos, if_pos]
  · have e := ztd_n (a := x) (b := 1000) (by omega)
    rw [q166_0, zg_pos (by omega), e, zg_pos (by unfold zI; omega)]
    split
    · rw [q166_14]
      have : -(-x / 1000) = x / 1000 := by omega
      rw [this]
    · rw [zg_pos (by unfold zI; omega), q166_14]
      have : -(-x / 1000) - 1 = x / 1000 := by omega
      rw [this]
/-- the sign of an exclusive or -/
theorem zxor_pos {a : Int} (h : zI a) : (0 ≤ zxor a 1000) = (0 ≤ a) := by
  have h' : -2147483648 ≤ a ∧ a ≤ 2147483647 := h
  unfold zxor
  have e1 : (Int32.ofInt a ^^^ Int32.ofInt 1000).toInt = ((Int32.ofInt a).toBitVec ^^^ (Int32.ofInt 1000).toBitVec).toInt := rfl
  have e2 : (Int32.ofInt a).toBitVec.toInt = a := Int32.toInt_ofInt_of_le (by omega) (by omega)
  have m1 := BitVec.toInt_neg_iff (x := (Int32.ofInt a).toBitVec)
  have m2 := BitVec.toInt_neg_iff (x := (Int32.ofInt a).toBitVec ^^^ (Int32.ofInt 1000).toBitVec)
  have q1 : (Int32.ofInt a).toBitVec.msb = decide ((Int32.ofInt a).toBitVec.toInt < 0) := BitVec.msb_eq_toInt
  have q2 : ((Int32.ofInt a).toBitVec ^^^ (Int32.ofInt 1000).toBitVec).msb = decide (((Int32.ofInt a).toBitVec ^^^ (Int32.ofInt 1000).toBitVec).toInt < 0) := BitVec.msb_eq_toInt
  have q3 : (Int32.ofInt 1000).toBitVec.msb = false := by decide
  rw [BitVec.msb_xor, q3, Bool.xor_false, q1, e2] at q2
  rw [e1]
  have q4 := decide_eq_decide.mp q2
  apply propext
  omega
theorem e220 (x : Int) (d : zV) (M : zM) (X : zX) (h : zI x) : zex 220 0 [] [(0, x), (0, (1000 : Int)), d] M X = some ((0, x / 1000), M, X) := by
  have h' : -2147483648 ≤ x ∧ x ≤ 2147483647 := h
  rw [q220_0, zg_pos (by omega)]
  simp only [zxor_pos h]
  by_cases hx : 0 ≤ x
  · rw [if_pos hx, q220_17, ztd_p hx]
  · have e := ztd_n (a := x) (b := 1000) (by omega)
    rw [if_neg hx, e, zg_pos (by unfold zI; omega)]
    split
    · rw [q220_17]
      have : -(-x / 1000) = x / 1000 := by omega
      rw [this]
    · rw [zg_pos (by unfold zI; omega)]
      have : -(-x / 1000) - 1 = x / 1000 := by omega
      rw [this]
/-- sums from a place on -/
def zsm (f : Int → Int) (i : Int) : Nat → Int
  | 0 => 0
  | n + 1 => f i + zsm f (i + 1) n
theorem zsm_congr {f g : Int → Int} : ∀ (n : Nat) (i j : Int), (∀ k : Int, 0 ≤ k → k < n → f (i + k) = g (j + k)) → zsm f i n = zsm g j n
  | 0, _, _, _ => rfl
  | n + 1, i, j, h => by
    unfold zsm
    have h0 := h 0 (by omega) (by omega)
    rw [Int.add_zero, Int.add_zero] at h0
    rw [h0, zsm_congr n (i + 1) (j + 1) (fun k hk hn => by have := h (k + 1) (by omega) (by omega); rw [show i + 1 + k = i + (k + 1) by omega, show j + 1 + k = j + (k + 1) by omega]; exact this)]
theorem zsm_le {f : Int → Int} {a b : Int} : ∀ (n : Nat) (i : Int), (∀ k : Int, i ≤ k → k < i + n → a ≤ f k ∧ f k ≤ b) → a * n ≤ zsm f i n ∧ zsm f i n ≤ b * n
  | 0, _, _ => by simp [zsm]
  | n + 1, i, h => by
    unfold zsm
    have h0 := h i (by omega) (by omega)
    have := zsm_le n (i + 1) (fun k hk hn => h k (by omega) (by omega))
    have e1 : a * ((n + 1 : Nat) : Int) = a * n + a := by rw [Int.natCast_add, Int.mul_add]; simp
    have e2 : b * ((n + 1 : Nat) : Int) = b * n + b := by rw [Int.natCast_add, Int.mul_add]; simp
    rw [e1, e2]
    omega
/-- what was not touched -/
def zCf (M M' : zM) : Prop := ∀ r y, (r < 1 ∨ 177 < r) → M' r y = M r y
def zRf (M M' : zM) : Prop := ∀ r y, (r < 178 ∨ 221 < r) → M' r y = M r y
theorem zCf.rfl {M : zM} : zCf M M := fun _ _ _ => Eq.refl _
theorem zRf.rfl {M : zM} : zRf M M := fun _ _ _ => Eq.refl _
theorem zCf.zu {M M' : zM} {a b v : Int} (h : zCf M M') (ha : 1 ≤ a ∧ a ≤ 177) : zCf M (zu M' a b v) := fun r y hr => by
  rw [zun (by omega)]
  exact h r y hr
theorem zRf.zu {M M' : zM} {a b v : Int} (h : zRf M M') (ha : 178 ≤ a ∧ a ≤ 221) : zRf M (zu M' a b v) := fun r y hr => by
  rw [zun (by omega)]
  exact h r y hr
theorem zCf.trans {M M' M'' : zM} (h : zCf M M') (h' : zCf M' M'') : zCf M M'' := fun r y hr => (h' r y hr).trans (h r y hr)
theorem zRf.trans {M M' M'' : zM} (h : zRf M M') (h' : zRf M' M'') : zRf M M'' := fun r y hr => (h' r y hr).trans (h r y hr)
