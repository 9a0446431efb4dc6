/-! THE LAW: one call -/
theorem zRel.rows {q : Int} {M P M1 P1 : zM} (h : zRel q M P) (u1 : ∀ r y, 1 ≤ r → r ≤ 177 → M1 r y = M r y) (u2 : ∀ r y, 178 ≤ r → r ≤ 221 → P1 r y = P r y) : zRel q M1 P1 := by
  obtain ⟨⟨r0, r1⟩, rc, rh, rp, rb, rs, rw0, rx, ro, rk, rt, rr⟩ := id h
  exact ⟨⟨zPC_t (fun r y => decide (r < 1 ∨ 177 < r)) (by decide +kernel) r0 (fun r y hr => u1 r y (by simp at hr; omega) (by simp at hr; omega)), zPR_t (fun r y => decide (r < 178 ∨ 221 < r)) (by decide +kernel) r1 (fun r y hr => u2 r y (by simp at hr; omega) (by simp at hr; omega))⟩, rc.of (fun r y a b => u1 r y (by omega) (by omega)) (fun a _ _ => u2 179 a (by omega) (by omega)) (fun i _ _ => ⟨u2 180 i (by omega) (by omega), u2 181 i (by omega) (by omega), u2 182 i (by omega) (by omega)⟩), by rw [u1 _ _ (by omega) (by omega), u2 _ _ (by omega) (by omega)]; exact rh, rp.of (u1 _ _ (by omega) (by omega)) (fun y => u1 _ _ (by omega) (by omega)) (u2 _ _ (by omega) (by omega)) (fun j _ _ => ⟨u2 183 j (by omega) (by omega), u2 184 j (by omega) (by omega)⟩), rb.of (fun y => u1 _ _ (by omega) (by omega)) (u1 _ _ (by omega) (by omega)) (fun y => u2 _ _ (by omega) (by omega)), rs.of (fun y => u1 _ _ (by omega) (by omega)) (u2 _ _ (by omega) (by omega)) (u2 _ _ (by omega) (by omega)) (u2 _ _ (by omega) (by omega)), rw0.of (fun y a b => u1 _ _ (by omega) (by omega)) (fun y => u1 _ _ (by omega) (by omega)) (u2 _ _ (by omega) (by omega)) (u2 _ _ (by omega) (by omega)) (u2 _ _ (by omega) (by omega)) (fun y => u2 _ _ (by omega) (by omega)), rx.of (u1 _ _ (by omega) (by omega)) (fun r y a b => u1 _ _ (by omega) (by omega)) (u2 _ _ (by omega) (by omega)) (fun r y a b => u2 _ _ (by omega) (by omega)), ro.of (u1 _ _ (by omega) (by omega)) (fun r y a b => u1 _ _ (by omega) (by omega)) (u2 _ _ (by omega) (by omega)) (fun r y a b => u2 _ _ (by omega) (by omega)), rk.of (fun r y a b => u1 _ _ (by omega) (by omega)) (u2 _ _ (by omega) (by omega)) (u2 _ _ (by omega) (by omega)) (u2 _ _ (by omega) (by omega)) (fun r y a b => u2 _ _ (by omega) (by omega)), rt.of (fun r y a b => u1 _ _ (by omega) (by omega)) (fun r y a b => u2 _ _ (by omega) (by omega)), by rw [u1 _ _ (by omega) (by omega), u2 _ _ (by omega) (by omega)]; exact rr⟩
/-- between two calls: both sides in one memory, and a script of L numbers -/
def zLw (q L : Int) (M : zM) : Prop := zRel q M M ∧ zsl M 4 = L ∧ ∀ x, zI (zsv M 4 x)
theorem zLw.of {q q' L : Int} {M M' : zM} (h : zLw q L M) (h' : zRel q' M' M') (f : ∀ y, M' (-5) y = M (-5) y) : zLw q' L M' := ⟨h', (f (-1)).trans h.2.1, fun x => by show zI (M' (-5) x); rw [f]; exact h.2.2 x⟩
theorem lw_op {q q' L : Int} {M : zM} {n m k k' : Nat} {al al' : List zV} (H : zLw q L M) (hq : q' ≤ q + 1) (h : ∀ P, zRel q M P → zOpn q' k k' al al' M P n m) : ∃ v M1 P1, zex k 0 [] ((2, 1) :: al) M (zKs, n, m) = some ((0, v), M1, (zKs, n, m)) ∧ zex k' 0 [] ((2, 178) :: al') M1 (zKs, n, m) = some ((0, v), P1, (zKs, n, m)) ∧ zLw (q + 1) L P1 ∧ zsl M1 4 = L ∧ ∀ x, zsv M1 4 x = zsv M 4 x := by
  obtain ⟨v, M1, P1, a1, a2, -, -, -⟩ := h M H.1
  obtain ⟨w, M2, P2, b1, b2, b3, b4, b5⟩ := h M1 (H.1.rows (fun _ _ _ _ => rfl) (fun r y _ _ => a2 r y (by omega)))
  have e := a1.symm.trans b1
  simp only [Option.some.injEq, Prod.mk.injEq, true_and, and_true] at e
  obtain ⟨rfl, rfl⟩ := e
  have f1 : ∀ y, M1 (-5) y = M (-5) y := fun y => a2 _ _ (by omega)
  refine ⟨v, M1, P2, a1, b3, H.of ((b5.mono hq).rows (fun r y _ _ => b4 r y (by omega)) (fun _ _ _ _ => rfl)) (fun y => by rw [b4 _ _ (by omega), f1]), (f1 (-1)).trans H.2.1, f1⟩
theorem lw_opx {q q' L : Int} {M : zM} {n m k k' : Nat} {al al' : List zV} (H : zLw q L M) (hq : q' ≤ q + 1) (h : ∀ P, zRel q M P → zOpx q' k k' al al' M P n m) : ∃ v M1 P1 n' m', zex k 0 [] ((2, 1) :: al) M (zKs, n, m) = some ((0, v), M1, (zKs, n', m')) ∧ zex k' 0 [] ((2, 178) :: al') M1 (zKs, n', m') = some ((0, v), P1, (zKs, n', m')) ∧ zLw (q + 1) L P1 ∧ zsl M1 4 = L ∧ (∀ x, zsv M1 4 x = zsv M 4 x) ∧ n ≤ n' + 1 ∧ m ≤ m' + 6 := by
  obtain ⟨v, M1, P1, n1, m1, a1, a2, -, -, -, -, -⟩ := h M H.1
  obtain ⟨w, M2, P2, n2, m2, b1, b2, b3, b4, b5, b6, b7⟩ := h M1 (H.1.rows (fun _ _ _ _ => rfl) (fun r y _ _ => a2 r y (by omega)))
  have e := a1.symm.trans b1
  simp only [Option.some.injEq, Prod.mk.injEq, true_and, and_true] at e
  obtain ⟨rfl, rfl, rfl, rfl⟩ := e
  have f1 : ∀ y, M1 (-5) y = M (-5) y := fun y => a2 _ _ (by omega)
  refine ⟨v, M1, P2, n1, m1, a1, b3, H.of ((b5.mono hq).rows (fun r y _ _ => b4 r y (by omega)) (fun _ _ _ _ => rfl)) (fun y => by rw [b4 _ _ (by omega), f1]), (f1 (-1)).trans H.2.1, f1, b6, b7⟩
/-- the law goes on to the next call -/
def zLn (q L x : Int) (n m : Nat) (o : Option zR) : Prop := ∃ M' n' m' e5 e6 e7, o = zex 228 13 [] [(3, 4), (2, 1), (2, 178), (2, 222), (0, x + 6), e5, e6, e7] M' (zKs, n', m') ∧ zLw (q + 1) L M' ∧ n ≤ n' + 1 ∧ m ≤ m' + 6
theorem lw_25 {q L x : Int} {M : zM} {n m : Nat} {e5 e6 e7 : zV} (H : zLw q L M) (hq : q ≤ 1000) (h0 : 0 ≤ q) (hn : 1 ≤ n) (hm : 6 ≤ m) (hx : 0 ≤ x ∧ x + 6 ≤ L) (hL : L ≤ 3072) : zLn q L x n m (zex 228 25 [] [(3, 4), (2, 1), (2, 178), (2, 222), (0, x), e5, e6, e7] M (zKs, n, m)) := by
  obtain ⟨v, M1, P1, a1, a2, a3, a4, a5⟩ := lw_op (q' := 0) H (by omega) (fun P hP => (o_begin hP n m))
  refine ⟨P1, n, m, e5, e6, e7, ?_, a3, by omega, by omega⟩
  have b0 := H.2.1
  simp (disch := omega) only [q228_25, q228_1000, b0, a4, a5, a1, a2, zk_1, zk_178, zg_pos, zI, ↓reduceIte, Int.reduceEq, Int.reduceLE, Int.reduceLT, Int.reduceAdd, Int.reduceSub, Int.reduceMul, Int.reduceNeg, zg_T, zbI_ok, zbL_ok, zbN_ok, zite1, zite2, zite3, zem, Int.cast_ofNat_Int, and_self, and_true, true_and, or_true, true_or, or_self, ite_not, if_true, if_false, not_true_eq_false, not_false_eq_true]
theorem lw_32 {q L x : Int} {M : zM} {n m : Nat} {e5 e6 e7 : zV} (H : zLw q L M) (hq : q ≤ 1000) (h0 : 0 ≤ q) (hn : 1 ≤ n) (hm : 6 ≤ m) (hx : 0 ≤ x ∧ x + 6 ≤ L) (hL : L ≤ 3072) : zLn q L x n m (zex 228 32 [] [(3, 4), (2, 1), (2, 178), (2, 222), (0, x), e5, e6, e7] M (zKs, n, m)) := by
  obtain ⟨v, M1, P1, a1, a2, a3, a4, a5⟩ := lw_op (q' := q) H (by omega) (fun P hP => (o_wind hP n m (zsv M 4 (x + 1)) (zsv M 4 (x + 2)) (zsv M 4 (x + 3)) (zsv M 4 (x + 4))))
  refine ⟨P1, n, m, e5, e6, e7, ?_, a3, by omega, by omega⟩
  have b0 := H.2.1
  simp (disch := omega) only [q228_32, q228_1000, b0, a4, a5, a1, a2, zk_1, zk_178, zg_pos, zI, ↓reduceIte, Int.reduceEq, Int.reduceLE, Int.reduceLT, Int.reduceAdd, Int.reduceSub, Int.reduceMul, Int.reduceNeg, zg_T, zbI_ok, zbL_ok, zbN_ok, zite1, zite2, zite3, zem, Int.cast_ofNat_Int, and_self, and_true, true_and, or_true, true_or, or_self, ite_not, if_true, if_false, not_true_eq_false, not_false_eq_true]
theorem lw_79 {q L x : Int} {M : zM} {n m : Nat} {e5 e6 e7 : zV} (H : zLw q L M) (hq : q ≤ 1000) (h0 : 0 ≤ q) (hn : 1 ≤ n) (hm : 6 ≤ m) (hx : 0 ≤ x ∧ x + 6 ≤ L) (hL : L ≤ 3072) : zLn q L x n m (zex 228 79 [] [(3, 4), (2, 1), (2, 178), (2, 222), (0, x), e5, e6, e7] M (zKs, n, m)) := by
  obtain ⟨v, M1, P1, a1, a2, a3, a4, a5⟩ := lw_op (q' := q) H (by omega) (fun P hP => (o_unwind hP n m (zsv M 4 (x + 1))))
  refine ⟨P1, n, m, e5, e6, e7, ?_, a3, by omega, by omega⟩
  have b0 := H.2.1
  simp (disch := omega) only [q228_79, q228_1000, b0, a4, a5, a1, a2, zk_1, zk_178, zg_pos, zI, ↓reduceIte, Int.reduceEq, Int.reduceLE, Int.reduceLT, Int.reduceAdd, Int.reduceSub, Int.reduceMul, Int.reduceNeg, zg_T, zbI_ok, zbL_ok, zbN_ok, zite1, zite2, zite3, zem, Int.cast_ofNat_Int, and_self, and_true, true_and, or_true, true_or, or_self, ite_not, if_true, if_false, not_true_eq_false, not_false_eq_true]
theorem lw_96 {q L x : Int} {M : zM} {n m : Nat} {e5 e6 e7 : zV} (H : zLw q L M) (hq : q ≤ 1000) (h0 : 0 ≤ q) (hn : 1 ≤ n) (hm : 6 ≤ m) (hx : 0 ≤ x ∧ x + 6 ≤ L) (hL : L ≤ 3072) : zLn q L x n m (zex 228 96 [] [(3, 4), (2, 1), (2, 178), (2, 222), (0, x), e5, e6, e7] M (zKs, n, m)) := by
  obtain ⟨v, M1, P1, a1, a2, a3, a4, a5⟩ := lw_op (q' := q) H (by omega) (fun P hP => (o_segment hP n m (zsv M 4 (x + 1)) (zsv M 4 (x + 2)) (zsv M 4 (x + 3))))
  refine ⟨P1, n, m, e5, e6, e7, ?_, a3, by omega, by omega⟩
  have b0 := H.2.1
  simp (disch := omega) only [q228_96, q228_1000, b0, a4, a5, a1, a2, zk_1, zk_178, zg_pos, zI, ↓reduceIte, Int.reduceEq, Int.reduceLE, Int.reduceLT, Int.reduceAdd, Int.reduceSub, Int.reduceMul, Int.reduceNeg, zg_T, zbI_ok, zbL_ok, zbN_ok, zite1, zite2, zite3, zem, Int.cast_ofNat_Int, and_self, and_true, true_and, or_true, true_or, or_self, ite_not, if_true, if_false, not_true_eq_false, not_false_eq_true]
theorem lw_133 {q L x : Int} {M : zM} {n m : Nat} {e5 e6 e7 : zV} (H : zLw q L M) (hq : q ≤ 1000) (h0 : 0 ≤ q) (hn : 1 ≤ n) (hm : 6 ≤ m) (hx : 0 ≤ x ∧ x + 6 ≤ L) (hL : L ≤ 3072) : zLn q L x n m (zex 228 133 [] [(3, 4), (2, 1), (2, 178), (2, 222), (0, x), e5, e6, e7] M (zKs, n, m)) := by
  obtain ⟨v, M1, P1, a1, a2, a3, a4, a5⟩ := lw_op (q' := q) H (by omega) (fun P hP => (o_hard hP n m (zsv M 4 (x + 1))))
  refine ⟨P1, n, m, e5, e6, e7, ?_, a3, by omega, by omega⟩
  have b0 := H.2.1
  simp (disch := omega) only [q228_133, q228_1000, b0, a4, a5, a1, a2, zk_1, zk_178, zg_pos, zI, ↓reduceIte, Int.reduceEq, Int.reduceLE, Int.reduceLT, Int.reduceAdd, Int.reduceSub, Int.reduceMul, Int.reduceNeg, zg_T, zbI_ok, zbL_ok, zbN_ok, zite1, zite2, zite3, zem, Int.cast_ofNat_Int, and_self, and_true, true_and, or_true, true_or, or_self, ite_not, if_true, if_false, not_true_eq_false, not_false_eq_true]
theorem lw_150 {q L x : Int} {M : zM} {n m : Nat} {e5 e6 e7 : zV} (H : zLw q L M) (hq : q ≤ 1000) (h0 : 0 ≤ q) (hn : 1 ≤ n) (hm : 6 ≤ m) (hx : 0 ≤ x ∧ x + 6 ≤ L) (hL : L ≤ 3072) : zLn q L x n m (zex 228 150 [] [(3, 4), (2, 1), (2, 178), (2, 222), (0, x), e5, e6, e7] M (zKs, n, m)) := by
  obtain ⟨v, M1, P1, a1, a2, a3, a4, a5⟩ := lw_op (q' := q) H (by omega) (fun P hP => (o_peg hP n m (zsv M 4 (x + 1)) (zsv M 4 (x + 2))))
  refine ⟨P1, n, m, e5, e6, e7, ?_, a3, by omega, by omega⟩
  have b0 := H.2.1
  simp (disch := omega) only [q228_150, q228_1000, b0, a4, a5, a1, a2, zk_1, zk_178, zg_pos, zI, ↓reduceIte, Int.reduceEq, Int.reduceLE, Int.reduceLT, Int.reduceAdd, Int.reduceSub, Int.reduceMul, Int.reduceNeg, zg_T, zbI_ok, zbL_ok, zbN_ok, zite1, zite2, zite3, zem, Int.cast_ofNat_Int, and_self, and_true, true_and, or_true, true_or, or_self, ite_not, if_true, if_false, not_true_eq_false, not_false_eq_true]
theorem lw_177 {q L x : Int} {M : zM} {n m : Nat} {e5 e6 e7 : zV} (H : zLw q L M) (hq : q ≤ 1000) (h0 : 0 ≤ q) (hn : 1 ≤ n) (hm : 6 ≤ m) (hx : 0 ≤ x ∧ x + 6 ≤ L) (hL : L ≤ 3072) : zLn q L x n m (zex 228 177 [] [(3, 4), (2, 1), (2, 178), (2, 222), (0, x), e5, e6, e7] M (zKs, n, m)) := by
  obtain ⟨v, M1, P1, a1, a2, a3, a4, a5⟩ := lw_op (q' := q) H (by omega) (fun P hP => (o_start hP n m (zsv M 4 (x + 1)) (zsv M 4 (x + 2)) (zsv M 4 (x + 3))))
  refine ⟨P1, n, m, e5, e6, e7, ?_, a3, by omega, by omega⟩
  have b0 := H.2.1
  simp (disch := omega) only [q228_177, q228_1000, b0, a4, a5, a1, a2, zk_1, zk_178, zg_pos, zI, ↓reduceIte, Int.reduceEq, Int.reduceLE, Int.reduceLT, Int.reduceAdd, Int.reduceSub, Int.reduceMul, Int.reduceNeg, zg_T, zbI_ok, zbL_ok, zbN_ok, zite1, zite2, zite3, zem, Int.cast_ofNat_Int, and_self, and_true, true_and, or_true, true_or, or_self, ite_not, if_true, if_false, not_true_eq_false, not_false_eq_true]
theorem lw_214 {q L x : Int} {M : zM} {n m : Nat} {e5 e6 e7 : zV} (H : zLw q L M) (hq : q ≤ 1000) (h0 : 0 ≤ q) (hn : 1 ≤ n) (hm : 6 ≤ m) (hx : 0 ≤ x ∧ x + 6 ≤ L) (hL : L ≤ 3072) : zLn q L x n m (zex 228 214 [] [(3, 4), (2, 1), (2, 178), (2, 222), (0, x), e5, e6, e7] M (zKs, n, m)) := by
  obtain ⟨v, M1, P1, a1, a2, a3, a4, a5⟩ := lw_op (q' := q) H (by omega) (fun P hP => (o_block hP n m (zsv M 4 (x + 1)) (zsv M 4 (x + 2))))
  refine ⟨P1, n, m, e5, e6, e7, ?_, a3, by omega, by omega⟩
  have b0 := H.2.1
  simp (disch := omega) only [q228_214, q228_1000, b0, a4, a5, a1, a2, zk_1, zk_178, zg_pos, zI, ↓reduceIte, Int.reduceEq, Int.reduceLE, Int.reduceLT, Int.reduceAdd, Int.reduceSub, Int.reduceMul, Int.reduceNeg, zg_T, zbI_ok, zbL_ok, zbN_ok, zite1, zite2, zite3, zem, Int.cast_ofNat_Int, and_self, and_true, true_and, or_true, true_or, or_self, ite_not, if_true, if_false, not_true_eq_false, not_false_eq_true]
theorem lw_241 {q L x : Int} {M : zM} {n m : Nat} {e5 e6 e7 : zV} (H : zLw q L M) (hq : q ≤ 1000) (h0 : 0 ≤ q) (hn : 1 ≤ n) (hm : 6 ≤ m) (hx : 0 ≤ x ∧ x + 6 ≤ L) (hL : L ≤ 3072) : zLn q L x n m (zex 228 241 [] [(3, 4), (2, 1), (2, 178), (2, 222), (0, x), e5, e6, e7] M (zKs, n, m)) := by
  obtain ⟨v, M1, P1, a1, a2, a3, a4, a5⟩ := lw_op (q' := q + 1) H (by omega) (fun P hP => (o_sand hP hq n m (zsv M 4 (x + 1)) (zsv M 4 (x + 2))))
  refine ⟨P1, n, m, e5, e6, e7, ?_, a3, by omega, by omega⟩
  have b0 := H.2.1
  simp (disch := omega) only [q228_241, q228_1000, b0, a4, a5, a1, a2, zk_1, zk_178, zg_pos, zI, ↓reduceIte, Int.reduceEq, Int.reduceLE, Int.reduceLT, Int.reduceAdd, Int.reduceSub, Int.reduceMul, Int.reduceNeg, zg_T, zbI_ok, zbL_ok, zbN_ok, zite1, zite2, zite3, zem, Int.cast_ofNat_Int, and_self, and_true, true_and, or_true, true_or, or_self, ite_not, if_true, if_false, not_true_eq_false, not_false_eq_true]
theorem lw_268 {q L x : Int} {M : zM} {n m : Nat} {e5 e6 e7 : zV} (H : zLw q L M) (hq : q ≤ 1000) (h0 : 0 ≤ q) (hn : 1 ≤ n) (hm : 6 ≤ m) (hx : 0 ≤ x ∧ x + 6 ≤ L) (hL : L ≤ 3072) : zLn q L x n m (zex 228 268 [] [(3, 4), (2, 1), (2, 178), (2, 222), (0, x), e5, e6, e7] M (zKs, n, m)) := by
  obtain ⟨v, M1, P1, a1, a2, a3, a4, a5⟩ := lw_op (q' := q) H (by omega) (fun P hP => (o_hold hP n m (zsv M 4 (x + 1))))
  refine ⟨P1, n, m, e5, e6, e7, ?_, a3, by omega, by omega⟩
  have b0 := H.2.1
  simp (disch := omega) only [q228_268, q228_1000, b0, a4, a5, a1, a2, zk_1, zk_178, zg_pos, zI, ↓reduceIte, Int.reduceEq, Int.reduceLE, Int.reduceLT, Int.reduceAdd, Int.reduceSub, Int.reduceMul, Int.reduceNeg, zg_T, zbI_ok, zbL_ok, zbN_ok, zite1, zite2, zite3, zem, Int.cast_ofNat_Int, and_self, and_true, true_and, or_true, true_or, or_self, ite_not, if_true, if_false, not_true_eq_false, not_false_eq_true]
theorem lw_285 {q L x : Int} {M : zM} {n m : Nat} {e5 e6 e7 : zV} (H : zLw q L M) (hq : q ≤ 1000) (h0 : 0 ≤ q) (hn : 1 ≤ n) (hm : 6 ≤ m) (hx : 0 ≤ x ∧ x + 6 ≤ L) (hL : L ≤ 3072) : zLn q L x n m (zex 228 285 [] [(3, 4), (2, 1), (2, 178), (2, 222), (0, x), e5, e6, e7] M (zKs, n, m)) := by
  obtain ⟨v, M1, P1, a1, a2, a3, a4, a5⟩ := lw_op (q' := q) H (by omega) (fun P hP => (o_fall hP n m (zsv M 4 (x + 1))))
  refine ⟨P1, n, m, e5, e6, e7, ?_, a3, by omega, by omega⟩
  have b0 := H.2.1
  simp (disch := omega) only [q228_285, q228_1000, b0, a4, a5, a1, a2, zk_1, zk_178, zg_pos, zI, ↓reduceIte, Int.reduceEq, Int.reduceLE, Int.reduceLT, Int.reduceAdd, Int.reduceSub, Int.reduceMul, Int.reduceNeg, zg_T, zbI_ok, zbL_ok, zbN_ok, zite1, zite2, zite3, zem, Int.cast_ofNat_Int, and_self, and_true, true_and, or_true, true_or, or_self, ite_not, if_true, if_false, not_true_eq_false, not_false_eq_true]
theorem lw_302 {q L x : Int} {M : zM} {n m : Nat} {e5 e6 e7 : zV} (H : zLw q L M) (hq : q ≤ 1000) (h0 : 0 ≤ q) (hn : 1 ≤ n) (hm : 6 ≤ m) (hx : 0 ≤ x ∧ x + 6 ≤ L) (hL : L ≤ 3072) : zLn q L x n m (zex 228 302 [] [(3, 4), (2, 1), (2, 178), (2, 222), (0, x), e5, e6, e7] M (zKs, n, m)) := by
  obtain ⟨v, M1, P1, a1, a2, a3, a4, a5⟩ := lw_op (q' := q) H (by omega) (fun P hP => (o_cord hP n m (zsv M 4 (x + 1))))
  refine ⟨P1, n, m, e5, e6, e7, ?_, a3, by omega, by omega⟩
  have b0 := H.2.1
  simp (disch := omega) only [q228_302, q228_1000, b0, a4, a5, a1, a2, zk_1, zk_178, zg_pos, zI, ↓reduceIte, Int.reduceEq, Int.reduceLE, Int.reduceLT, Int.reduceAdd, Int.reduceSub, Int.reduceMul, Int.reduceNeg, zg_T, zbI_ok, zbL_ok, zbN_ok, zite1, zite2, zite3, zem, Int.cast_ofNat_Int, and_self, and_true, true_and, or_true, true_or, or_self, ite_not, if_true, if_false, not_true_eq_false, not_false_eq_true]
theorem lw_319 {q L x : Int} {M : zM} {n m : Nat} {e5 e6 e7 : zV} (H : zLw q L M) (hq : q ≤ 1000) (h0 : 0 ≤ q) (hn : 1 ≤ n) (hm : 6 ≤ m) (hx : 0 ≤ x ∧ x + 6 ≤ L) (hL : L ≤ 3072) : zLn q L x n m (zex 228 319 [] [(3, 4), (2, 1), (2, 178), (2, 222), (0, x), e5, e6, e7] M (zKs, n, m)) := by
  obtain ⟨v, M1, P1, a1, a2, a3, a4, a5⟩ := lw_op (q' := q) H (by omega) (fun P hP => (o_show hP n m))
  refine ⟨P1, n, m, e5, e6, e7, ?_, a3, by omega, by omega⟩
  have b0 := H.2.1
  simp (disch := omega) only [q228_319, q228_1000, b0, a4, a5, a1, a2, zk_1, zk_178, zg_pos, zI, ↓reduceIte, Int.reduceEq, Int.reduceLE, Int.reduceLT, Int.reduceAdd, Int.reduceSub, Int.reduceMul, Int.reduceNeg, zg_T, zbI_ok, zbL_ok, zbN_ok, zite1, zite2, zite3, zem, Int.cast_ofNat_Int, and_self, and_true, true_and, or_true, true_or, or_self, ite_not, if_true, if_false, not_true_eq_false, not_false_eq_true]
theorem lw_406 {q L x : Int} {M : zM} {n m : Nat} {e5 e6 e7 : zV} (H : zLw q L M) (hq : q ≤ 1000) (h0 : 0 ≤ q) (hn : 1 ≤ n) (hm : 6 ≤ m) (hx : 0 ≤ x ∧ x + 6 ≤ L) (hL : L ≤ 3072) : zLn q L x n m (zex 228 406 [] [(3, 4), (2, 1), (2, 178), (2, 222), (0, x), e5, e6, e7] M (zKs, n, m)) := by
  obtain ⟨v, M1, P1, a1, a2, a3, a4, a5⟩ := lw_op (q' := q) H (by omega) (fun P hP => (o_slipped hP n m (zsv M 4 (x + 1)) (zsv M 4 (x + 2))))
  refine ⟨P1, n, m, e5, e6, e7, ?_, a3, by omega, by omega⟩
  have b0 := H.2.1
  simp (disch := omega) only [q228_406, q228_1000, b0, a4, a5, a1, a2, zk_1, zk_178, zg_pos, zI, ↓reduceIte, Int.reduceEq, Int.reduceLE, Int.reduceLT, Int.reduceAdd, Int.reduceSub, Int.reduceMul, Int.reduceNeg, zg_T, zbI_ok, zbL_ok, zbN_ok, zite1, zite2, zite3, zem, Int.cast_ofNat_Int, and_self, and_true, true_and, or_true, true_or, or_self, ite_not, if_true, if_false, not_true_eq_false, not_false_eq_true]
theorem lw_478 {q L x : Int} {M : zM} {n m : Nat} {e5 e6 e7 : zV} (H : zLw q L M) (hq : q ≤ 1000) (h0 : 0 ≤ q) (hn : 1 ≤ n) (hm : 6 ≤ m) (hx : 0 ≤ x ∧ x + 6 ≤ L) (hL : L ≤ 3072) : zLn q L x n m (zex 228 478 [] [(3, 4), (2, 1), (2, 178), (2, 222), (0, x), e5, e6, e7] M (zKs, n, m)) := by
  obtain ⟨v, M1, P1, a1, a2, a3, a4, a5⟩ := lw_op (q' := q) H (by omega) (fun P hP => (o_wish hP n m (zsv M 4 (x + 1)) (zsv M 4 (x + 2)) (zsv M 4 (x + 3))))
  refine ⟨P1, n, m, e5, e6, e7, ?_, a3, by omega, by omega⟩
  have b0 := H.2.1
  simp (disch := omega) only [q228_478, q228_1000, b0, a4, a5, a1, a2, zk_1, zk_178, zg_pos, zI, ↓reduceIte, Int.reduceEq, Int.reduceLE, Int.reduceLT, Int.reduceAdd, Int.reduceSub, Int.reduceMul, Int.reduceNeg, zg_T, zbI_ok, zbL_ok, zbN_ok, zite1, zite2, zite3, zem, Int.cast_ofNat_Int, and_self, and_true, true_and, or_true, true_or, or_self, ite_not, if_true, if_false, not_true_eq_false, not_false_eq_true]
theorem lw_515 {q L x : Int} {M : zM} {n m : Nat} {e5 e6 e7 : zV} (H : zLw q L M) (hq : q ≤ 1000) (h0 : 0 ≤ q) (hn : 1 ≤ n) (hm : 6 ≤ m) (hx : 0 ≤ x ∧ x + 6 ≤ L) (hL : L ≤ 3072) : zLn q L x n m (zex 228 515 [] [(3, 4), (2, 1), (2, 178), (2, 222), (0, x), e5, e6, e7] M (zKs, n, m)) := by
  obtain ⟨v, M1, P1, a1, a2, a3, a4, a5⟩ := lw_op (q' := q) H (by omega) (fun P hP => (o_wishless hP n m))
  refine ⟨P1, n, m, e5, e6, e7, ?_, a3, by omega, by omega⟩
  have b0 := H.2.1
  simp (disch := omega) only [q228_515, q228_1000, b0, a4, a5, a1, a2, zk_1, zk_178, zg_pos, zI, ↓reduceIte, Int.reduceEq, Int.reduceLE, Int.reduceLT, Int.reduceAdd, Int.reduceSub, Int.reduceMul, Int.reduceNeg, zg_T, zbI_ok, zbL_ok, zbN_ok, zite1, zite2, zite3, zem, Int.cast_ofNat_Int, and_self, and_true, true_and, or_true, true_or, or_self, ite_not, if_true, if_false, not_true_eq_false, not_false_eq_true]
theorem lw_586 {q L x : Int} {M : zM} {n m : Nat} {e5 e6 e7 : zV} (H : zLw q L M) (hq : q ≤ 1000) (h0 : 0 ≤ q) (hn : 1 ≤ n) (hm : 6 ≤ m) (hx : 0 ≤ x ∧ x + 6 ≤ L) (hL : L ≤ 3072) : zLn q L x n m (zex 228 586 [] [(3, 4), (2, 1), (2, 178), (2, 222), (0, x), e5, e6, e7] M (zKs, n, m)) := by
  obtain ⟨v, M1, P1, a1, a2, a3, a4, a5⟩ := lw_op (q' := q) H (by omega) (fun P hP => (o_spot hP n m (zsv M 4 (x + 1)) (zsv M 4 (x + 2)) (zsv M 4 (x + 3))))
  refine ⟨P1, n, m, e5, e6, e7, ?_, a3, by omega, by omega⟩
  have b0 := H.2.1
  simp (disch := omega) only [q228_586, q228_1000, b0, a4, a5, a1, a2, zk_1, zk_178, zg_pos, zI, ↓reduceIte, Int.reduceEq, Int.reduceLE, Int.reduceLT, Int.reduceAdd, Int.reduceSub, Int.reduceMul, Int.reduceNeg, zg_T, zbI_ok, zbL_ok, zbN_ok, zite1, zite2, zite3, zem, Int.cast_ofNat_Int, and_self, and_true, true_and, or_true, true_or, or_self, ite_not, if_true, if_false, not_true_eq_false, not_false_eq_true]
theorem lw_623 {q L x : Int} {M : zM} {n m : Nat} {e5 e6 e7 : zV} (H : zLw q L M) (hq : q ≤ 1000) (h0 : 0 ≤ q) (hn : 1 ≤ n) (hm : 6 ≤ m) (hx : 0 ≤ x ∧ x + 6 ≤ L) (hL : L ≤ 3072) : zLn q L x n m (zex 228 623 [] [(3, 4), (2, 1), (2, 178), (2, 222), (0, x), e5, e6, e7] M (zKs, n, m)) := by
  obtain ⟨v, M1, P1, a1, a2, a3, a4, a5⟩ := lw_op (q' := q) H (by omega) (fun P hP => (o_spotless hP n m))
  refine ⟨P1, n, m, e5, e6, e7, ?_, a3, by omega, by omega⟩
  have b0 := H.2.1
  simp (disch := omega) only [q228_623, q228_1000, b0, a4, a5, a1, a2, zk_1, zk_178, zg_pos, zI, ↓reduceIte, Int.reduceEq, Int.reduceLE, Int.reduceLT, Int.reduceAdd, Int.reduceSub, Int.reduceMul, Int.reduceNeg, zg_T, zbI_ok, zbL_ok, zbN_ok, zite1, zite2, zite3, zem, Int.cast_ofNat_Int, and_self, and_true, true_and, or_true, true_or, or_self, ite_not, if_true, if_false, not_true_eq_false, not_false_eq_true]
theorem lw_630 {q L x : Int} {M : zM} {n m : Nat} {e5 e6 e7 : zV} (H : zLw q L M) (hq : q ≤ 1000) (h0 : 0 ≤ q) (hn : 1 ≤ n) (hm : 6 ≤ m) (hx : 0 ≤ x ∧ x + 6 ≤ L) (hL : L ≤ 3072) : zLn q L x n m (zex 228 630 [] [(3, 4), (2, 1), (2, 178), (2, 222), (0, x), e5, e6, e7] M (zKs, n, m)) := by
  obtain ⟨v, M1, P1, a1, a2, a3, a4, a5⟩ := lw_op (q' := q) H (by omega) (fun P hP => (o_miss hP n m))
  refine ⟨P1, n, m, e5, e6, e7, ?_, a3, by omega, by omega⟩
  have b0 := H.2.1
  simp (disch := omega) only [q228_630, q228_1000, b0, a4, a5, a1, a2, zk_1, zk_178, zg_pos, zI, ↓reduceIte, Int.reduceEq, Int.reduceLE, Int.reduceLT, Int.reduceAdd, Int.reduceSub, Int.reduceMul, Int.reduceNeg, zg_T, zbI_ok, zbL_ok, zbN_ok, zite1, zite2, zite3, zem, Int.cast_ofNat_Int, and_self, and_true, true_and, or_true, true_or, or_self, ite_not, if_true, if_false, not_true_eq_false, not_false_eq_true]
theorem lw_637 {q L x : Int} {M : zM} {n m : Nat} {e5 e6 e7 : zV} (H : zLw q L M) (hq : q ≤ 1000) (h0 : 0 ≤ q) (hn : 1 ≤ n) (hm : 6 ≤ m) (hx : 0 ≤ x ∧ x + 6 ≤ L) (hL : L ≤ 3072) : zLn q L x n m (zex 228 637 [] [(3, 4), (2, 1), (2, 178), (2, 222), (0, x), e5, e6, e7] M (zKs, n, m)) := by
  obtain ⟨v, M1, P1, a1, a2, a3, a4, a5⟩ := lw_op (q' := q) H (by omega) (fun P hP => (o_fillings hP n m))
  refine ⟨P1, n, m, e5, e6, e7, ?_, a3, by omega, by omega⟩
  have b0 := H.2.1
  simp (disch := omega) only [q228_637, q228_1000, b0, a4, a5, a1, a2, zk_1, zk_178, zg_pos, zI, ↓reduceIte, Int.reduceEq, Int.reduceLE, Int.reduceLT, Int.reduceAdd, Int.reduceSub, Int.reduceMul, Int.reduceNeg, zg_T, zbI_ok, zbL_ok, zbN_ok, zite1, zite2, zite3, zem, Int.cast_ofNat_Int, and_self, and_true, true_and, or_true, true_or, or_self, ite_not, if_true, if_false, not_true_eq_false, not_false_eq_true]
theorem lw_644 {q L x : Int} {M : zM} {n m : Nat} {e5 e6 e7 : zV} (H : zLw q L M) (hq : q ≤ 1000) (h0 : 0 ≤ q) (hn : 1 ≤ n) (hm : 6 ≤ m) (hx : 0 ≤ x ∧ x + 6 ≤ L) (hL : L ≤ 3072) : zLn q L x n m (zex 228 644 [] [(3, 4), (2, 1), (2, 178), (2, 222), (0, x), e5, e6, e7] M (zKs, n, m)) := by
  obtain ⟨v, M1, P1, a1, a2, a3, a4, a5⟩ := lw_op (q' := q) H (by omega) (fun P hP => (o_filling hP n m (zsv M 4 (x + 1))))
  refine ⟨P1, n, m, e5, e6, e7, ?_, a3, by omega, by omega⟩
  have b0 := H.2.1
  simp (disch := omega) only [q228_644, q228_1000, b0, a4, a5, a1, a2, zk_1, zk_178, zg_pos, zI, ↓reduceIte, Int.reduceEq, Int.reduceLE, Int.reduceLT, Int.reduceAdd, Int.reduceSub, Int.reduceMul, Int.reduceNeg, zg_T, zbI_ok, zbL_ok, zbN_ok, zite1, zite2, zite3, zem, Int.cast_ofNat_Int, and_self, and_true, true_and, or_true, true_or, or_self, ite_not, if_true, if_false, not_true_eq_false, not_false_eq_true]
theorem lw_661 {q L x : Int} {M : zM} {n m : Nat} {e5 e6 e7 : zV} (H : zLw q L M) (hq : q ≤ 1000) (h0 : 0 ≤ q) (hn : 1 ≤ n) (hm : 6 ≤ m) (hx : 0 ≤ x ∧ x + 6 ≤ L) (hL : L ≤ 3072) : zLn q L x n m (zex 228 661 [] [(3, 4), (2, 1), (2, 178), (2, 222), (0, x), e5, e6, e7] M (zKs, n, m)) := by
  obtain ⟨v, M1, P1, a1, a2, a3, a4, a5⟩ := lw_op (q' := q) H (by omega) (fun P hP => (o_fill hP n m (zsv M 4 (x + 1)) (H.2.2 _)))
  refine ⟨P1, n, m, e5, e6, e7, ?_, a3, by omega, by omega⟩
  have b0 := H.2.1
  simp (disch := omega) only [q228_661, q228_1000, b0, a4, a5, a1, a2, zk_1, zk_178, zg_pos, zI, ↓reduceIte, Int.reduceEq, Int.reduceLE, Int.reduceLT, Int.reduceAdd, Int.reduceSub, Int.reduceMul, Int.reduceNeg, zg_T, zbI_ok, zbL_ok, zbN_ok, zite1, zite2, zite3, zem, Int.cast_ofNat_Int, and_self, and_true, true_and, or_true, true_or, or_self, ite_not, if_true, if_false, not_true_eq_false, not_false_eq_true]
theorem lw_678 {q L x : Int} {M : zM} {n m : Nat} {e5 e6 e7 : zV} (H : zLw q L M) (hq : q ≤ 1000) (h0 : 0 ≤ q) (hn : 1 ≤ n) (hm : 6 ≤ m) (hx : 0 ≤ x ∧ x + 6 ≤ L) (hL : L ≤ 3072) : zLn q L x n m (zex 228 678 [] [(3, 4), (2, 1), (2, 178), (2, 222), (0, x), e5, e6, e7] M (zKs, n, m)) := by
  obtain ⟨v, M1, P1, a1, a2, a3, a4, a5⟩ := lw_op (q' := q) H (by omega) (fun P hP => (o_slips hP n m))
  refine ⟨P1, n, m, e5, e6, e7, ?_, a3, by omega, by omega⟩
  have b0 := H.2.1
  simp (disch := omega) only [q228_678, q228_1000, b0, a4, a5, a1, a2, zk_1, zk_178, zg_pos, zI, ↓reduceIte, Int.reduceEq, Int.reduceLE, Int.reduceLT, Int.reduceAdd, Int.reduceSub, Int.reduceMul, Int.reduceNeg, zg_T, zbI_ok, zbL_ok, zbN_ok, zite1, zite2, zite3, zem, Int.cast_ofNat_Int, and_self, and_true, true_and, or_true, true_or, or_self, ite_not, if_true, if_false, not_true_eq_false, not_false_eq_true]
theorem lw_685 {q L x : Int} {M : zM} {n m : Nat} {e5 e6 e7 : zV} (H : zLw q L M) (hq : q ≤ 1000) (h0 : 0 ≤ q) (hn : 1 ≤ n) (hm : 6 ≤ m) (hx : 0 ≤ x ∧ x + 6 ≤ L) (hL : L ≤ 3072) : zLn q L x n m (zex 228 685 [] [(3, 4), (2, 1), (2, 178), (2, 222), (0, x), e5, e6, e7] M (zKs, n, m)) := by
  obtain ⟨v, M1, P1, a1, a2, a3, a4, a5⟩ := lw_op (q' := q) H (by omega) (fun P hP => (o_slip hP n m (zsv M 4 (x + 1))))
  refine ⟨P1, n, m, e5, e6, e7, ?_, a3, by omega, by omega⟩
  have b0 := H.2.1
  simp (disch := omega) only [q228_685, q228_1000, b0, a4, a5, a1, a2, zk_1, zk_178, zg_pos, zI, ↓reduceIte, Int.reduceEq, Int.reduceLE, Int.reduceLT, Int.reduceAdd, Int.reduceSub, Int.reduceMul, Int.reduceNeg, zg_T, zbI_ok, zbL_ok, zbN_ok, zite1, zite2, zite3, zem, Int.cast_ofNat_Int, and_self, and_true, true_and, or_true, true_or, or_self, ite_not, if_true, if_false, not_true_eq_false, not_false_eq_true]
theorem lw_702 {q L x : Int} {M : zM} {n m : Nat} {e5 e6 e7 : zV} (H : zLw q L M) (hq : q ≤ 1000) (h0 : 0 ≤ q) (hn : 1 ≤ n) (hm : 6 ≤ m) (hx : 0 ≤ x ∧ x + 6 ≤ L) (hL : L ≤ 3072) : zLn q L x n m (zex 228 702 [] [(3, 4), (2, 1), (2, 178), (2, 222), (0, x), e5, e6, e7] M (zKs, n, m)) := by
  obtain ⟨v, M1, P1, a1, a2, a3, a4, a5⟩ := lw_op (q' := q) H (by omega) (fun P hP => (o_pair hP n m))
  refine ⟨P1, n, m, e5, e6, e7, ?_, a3, by omega, by omega⟩
  have b0 := H.2.1
  simp (disch := omega) only [q228_702, q228_1000, b0, a4, a5, a1, a2, zk_1, zk_178, zg_pos, zI, ↓reduceIte, Int.reduceEq, Int.reduceLE, Int.reduceLT, Int.reduceAdd, Int.reduceSub, Int.reduceMul, Int.reduceNeg, zg_T, zbI_ok, zbL_ok, zbN_ok, zite1, zite2, zite3, zem, Int.cast_ofNat_Int, and_self, and_true, true_and, or_true, true_or, or_self, ite_not, if_true, if_false, not_true_eq_false, not_false_eq_true]
theorem lw_716 {q L x : Int} {M : zM} {n m : Nat} {e5 e6 e7 : zV} (H : zLw q L M) (hq : q ≤ 1000) (h0 : 0 ≤ q) (hn : 1 ≤ n) (hm : 6 ≤ m) (hx : 0 ≤ x ∧ x + 6 ≤ L) (hL : L ≤ 3072) : zLn q L x n m (zex 228 716 [] [(3, 4), (2, 1), (2, 178), (2, 222), (0, x), e5, e6, e7] M (zKs, n, m)) := by
  obtain ⟨v, M1, P1, a1, a2, a3, a4, a5⟩ := lw_op (q' := q + 1) H (by omega) (fun P hP => (o_tape hP hq n m (zsv M 4 (x + 1)) (zsv M 4 (x + 2)) (zsv M 4 (x + 3))))
  refine ⟨P1, n, m, e5, e6, e7, ?_, a3, by omega, by omega⟩
  have b0 := H.2.1
  simp (disch := omega) only [q228_716, q228_1000, b0, a4, a5, a1, a2, zk_1, zk_178, zg_pos, zI, ↓reduceIte, Int.reduceEq, Int.reduceLE, Int.reduceLT, Int.reduceAdd, Int.reduceSub, Int.reduceMul, Int.reduceNeg, zg_T, zbI_ok, zbL_ok, zbN_ok, zite1, zite2, zite3, zem, Int.cast_ofNat_Int, and_self, and_true, true_and, or_true, true_or, or_self, ite_not, if_true, if_false, not_true_eq_false, not_false_eq_true]
theorem lw_753 {q L x : Int} {M : zM} {n m : Nat} {e5 e6 e7 : zV} (H : zLw q L M) (hq : q ≤ 1000) (h0 : 0 ≤ q) (hn : 1 ≤ n) (hm : 6 ≤ m) (hx : 0 ≤ x ∧ x + 6 ≤ L) (hL : L ≤ 3072) : zLn q L x n m (zex 228 753 [] [(3, 4), (2, 1), (2, 178), (2, 222), (0, x), e5, e6, e7] M (zKs, n, m)) := by
  obtain ⟨v, M1, P1, a1, a2, a3, a4, a5⟩ := lw_op (q' := q + 1) H (by omega) (fun P hP => (o_keep hP n m (zsv M 4 (x + 1))))
  refine ⟨P1, n, m, e5, e6, e7, ?_, a3, by omega, by omega⟩
  have b0 := H.2.1
  simp (disch := omega) only [q228_753, q228_1000, b0, a4, a5, a1, a2, zk_1, zk_178, zg_pos, zI, ↓reduceIte, Int.reduceEq, Int.reduceLE, Int.reduceLT, Int.reduceAdd, Int.reduceSub, Int.reduceMul, Int.reduceNeg, zg_T, zbI_ok, zbL_ok, zbN_ok, zite1, zite2, zite3, zem, Int.cast_ofNat_Int, and_self, and_true, true_and, or_true, true_or, or_self, ite_not, if_true, if_false, not_true_eq_false, not_false_eq_true]
theorem lw_770 {q L x : Int} {M : zM} {n m : Nat} {e5 e6 e7 : zV} (H : zLw q L M) (hq : q ≤ 1000) (h0 : 0 ≤ q) (hn : 1 ≤ n) (hm : 6 ≤ m) (hx : 0 ≤ x ∧ x + 6 ≤ L) (hL : L ≤ 3072) : zLn q L x n m (zex 228 770 [] [(3, 4), (2, 1), (2, 178), (2, 222), (0, x), e5, e6, e7] M (zKs, n, m)) := by
  obtain ⟨v, M1, P1, a1, a2, a3, a4, a5⟩ := lw_op (q' := q + 1) H (by omega) (fun P hP => (o_back hP hq n m (zsv M 4 (x + 1))))
  refine ⟨P1, n, m, e5, e6, e7, ?_, a3, by omega, by omega⟩
  have b0 := H.2.1
  simp (disch := omega) only [q228_770, q228_1000, b0, a4, a5, a1, a2, zk_1, zk_178, zg_pos, zI, ↓reduceIte, Int.reduceEq, Int.reduceLE, Int.reduceLT, Int.reduceAdd, Int.reduceSub, Int.reduceMul, Int.reduceNeg, zg_T, zbI_ok, zbL_ok, zbN_ok, zite1, zite2, zite3, zem, Int.cast_ofNat_Int, and_self, and_true, true_and, or_true, true_or, or_self, ite_not, if_true, if_false, not_true_eq_false, not_false_eq_true]
theorem lw_804 {q L x : Int} {M : zM} {n m : Nat} {e5 e6 e7 : zV} (H : zLw q L M) (hq : q ≤ 1000) (h0 : 0 ≤ q) (hn : 1 ≤ n) (hm : 6 ≤ m) (hx : 0 ≤ x ∧ x + 6 ≤ L) (hL : L ≤ 3072) : zLn q L x n m (zex 228 804 [] [(3, 4), (2, 1), (2, 178), (2, 222), (0, x), e5, e6, e7] M (zKs, n, m)) := by
  obtain ⟨v, M1, P1, a1, a2, a3, a4, a5⟩ := lw_op (q' := q) H (by omega) (fun P hP => (o_clear hP n m (zsv M 4 (x + 1))))
  refine ⟨P1, n, m, e5, e6, e7, ?_, a3, by omega, by omega⟩
  have b0 := H.2.1
  simp (disch := omega) only [q228_804, q228_1000, b0, a4, a5, a1, a2, zk_1, zk_178, zg_pos, zI, ↓reduceIte, Int.reduceEq, Int.reduceLE, Int.reduceLT, Int.reduceAdd, Int.reduceSub, Int.reduceMul, Int.reduceNeg, zg_T, zbI_ok, zbL_ok, zbN_ok, zite1, zite2, zite3, zem, Int.cast_ofNat_Int, and_self, and_true, true_and, or_true, true_or, or_self, ite_not, if_true, if_false, not_true_eq_false, not_false_eq_true]
theorem lw_821 {q L x : Int} {M : zM} {n m : Nat} {e5 e6 e7 : zV} (H : zLw q L M) (hq : q ≤ 1000) (h0 : 0 ≤ q) (hn : 1 ≤ n) (hm : 6 ≤ m) (hx : 0 ≤ x ∧ x + 6 ≤ L) (hL : L ≤ 3072) : zLn q L x n m (zex 228 821 [] [(3, 4), (2, 1), (2, 178), (2, 222), (0, x), e5, e6, e7] M (zKs, n, m)) := by
  obtain ⟨v, M1, P1, a1, a2, a3, a4, a5⟩ := lw_op (q' := q + 1) H (by omega) (fun P hP => (o_put hP hq n m (zsv M 4 (x + 1)) (zsv M 4 (x + 2)) (zlor (zlshl (zsv M 4 (x + 3)) 32) (zland (zsv M 4 (x + 4)) 4294967295))))
  refine ⟨P1, n, m, e5, e6, e7, ?_, a3, by omega, by omega⟩
  have b0 := H.2.1
  simp (disch := omega) only [q228_821, q228_1000, b0, a4, a5, a1, a2, zk_1, zk_178, zg_pos, zI, ↓reduceIte, Int.reduceEq, Int.reduceLE, Int.reduceLT, Int.reduceAdd, Int.reduceSub, Int.reduceMul, Int.reduceNeg, zg_T, zbI_ok, zbL_ok, zbN_ok, zite1, zite2, zite3, zem, Int.cast_ofNat_Int, and_self, and_true, true_and, or_true, true_or, or_self, ite_not, if_true, if_false, not_true_eq_false, not_false_eq_true]
theorem lw_926 {q L x : Int} {M : zM} {n m : Nat} {e5 e6 e7 : zV} (H : zLw q L M) (hq : q ≤ 1000) (h0 : 0 ≤ q) (hn : 1 ≤ n) (hm : 6 ≤ m) (hx : 0 ≤ x ∧ x + 6 ≤ L) (hL : L ≤ 3072) : zLn q L x n m (zex 228 926 [] [(3, 4), (2, 1), (2, 178), (2, 222), (0, x), e5, e6, e7] M (zKs, n, m)) := by
  obtain ⟨v, M1, P1, a1, a2, a3, a4, a5⟩ := lw_op (q' := q + 1) H (by omega) (fun P hP => (o_copy hP hq n m (zsv M 4 (x + 1)) (zsv M 4 (x + 2)) (zsv M 4 (x + 3)) (zsv M 4 (x + 4)) (zsv M 4 (x + 5)) (H.2.2 _) (H.2.2 _)))
  refine ⟨P1, n, m, e5, e6, e7, ?_, a3, by omega, by omega⟩
  have b0 := H.2.1
  simp (disch := omega) only [q228_926, q228_1000, b0, a4, a5, a1, a2, zk_1, zk_178, zg_pos, zI, ↓reduceIte, Int.reduceEq, Int.reduceLE, Int.reduceLT, Int.reduceAdd, Int.reduceSub, Int.reduceMul, Int.reduceNeg, zg_T, zbI_ok, zbL_ok, zbN_ok, zite1, zite2, zite3, zem, Int.cast_ofNat_Int, and_self, and_true, true_and, or_true, true_or, or_self, ite_not, if_true, if_false, not_true_eq_false, not_false_eq_true]
theorem lw_983 {q L x : Int} {M : zM} {n m : Nat} {e5 e6 e7 : zV} (H : zLw q L M) (hq : q ≤ 1000) (h0 : 0 ≤ q) (hn : 1 ≤ n) (hm : 6 ≤ m) (hx : 0 ≤ x ∧ x + 6 ≤ L) (hL : L ≤ 3072) : zLn q L x n m (zex 228 983 [] [(3, 4), (2, 1), (2, 178), (2, 222), (0, x), e5, e6, e7] M (zKs, n, m)) := by
  obtain ⟨v, M1, P1, a1, a2, a3, a4, a5⟩ := lw_op (q' := q) H (by omega) (fun P hP => (o_count hP n m (zsv M 4 (x + 1))))
  refine ⟨P1, n, m, e5, e6, e7, ?_, a3, by omega, by omega⟩
  have b0 := H.2.1
  simp (disch := omega) only [q228_983, q228_1000, b0, a4, a5, a1, a2, zk_1, zk_178, zg_pos, zI, ↓reduceIte, Int.reduceEq, Int.reduceLE, Int.reduceLT, Int.reduceAdd, Int.reduceSub, Int.reduceMul, Int.reduceNeg, zg_T, zbI_ok, zbL_ok, zbN_ok, zite1, zite2, zite3, zem, Int.cast_ofNat_Int, and_self, and_true, true_and, or_true, true_or, or_self, ite_not, if_true, if_false, not_true_eq_false, not_false_eq_true]
theorem lw_787 {q L x : Int} {M : zM} {n m : Nat} {e5 e6 e7 : zV} (H : zLw q L M) (hq : q ≤ 1000) (h0 : 0 ≤ q) (hn : 1 ≤ n) (hm : 6 ≤ m) (hx : 0 ≤ x ∧ x + 6 ≤ L) (hL : L ≤ 3072) : zLn q L x n m (zex 228 787 [] [(3, 4), (2, 1), (2, 178), (2, 222), (0, x), e5, e6, e7] M (zKs, n, m)) := by
  obtain ⟨v, M1, P1, n', m', a1, a2, a3, a4, a5, a6, a7⟩ := lw_opx (q' := q + 1) H (by omega) (fun P hP => (o_toss hP hq n m hn hm (zsv M 4 (x + 1))))
  refine ⟨P1, n', m', e5, e6, e7, ?_, a3, a6, a7⟩
  have b0 := H.2.1
  simp (disch := omega) only [q228_787, q228_1000, b0, a4, a5, a1, a2, zk_1, zk_178, zg_pos, zI, ↓reduceIte, Int.reduceEq, Int.reduceLE, Int.reduceLT, Int.reduceAdd, Int.reduceSub, Int.reduceMul, Int.reduceNeg, zg_T, zbI_ok, zbL_ok, zbN_ok, zite1, zite2, zite3, zem, Int.cast_ofNat_Int, and_self, and_true, true_and, or_true, true_or, or_self, ite_not, if_true, if_false, not_true_eq_false, not_false_eq_true]
