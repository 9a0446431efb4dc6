/-! THE LAW: calls that may throw -/
theorem lw_opt {q L : Int} {M : zM} {n m rt k k' : Nat} {al al' : List zV} (H : zLw q L M) (hrt : rt ≠ 8) (h : ∀ P, zRel q M P → zOpt q rt k k' al al' M P n m) : (∃ v M1 P1, zex k 0 [] ((2, 1) :: al) M (zKs, n, m) = some ((rt, v), M1, (zKs, n, m)) ∧ zex k' 0 [] ((2, 178) :: al') (zu M1 222 0 v) (zKs, n, m) = some ((rt, v), P1, (zKs, n, m)) ∧ zLw (q + 1) L P1 ∧ zsl (zu M1 222 0 v) 4 = L ∧ (∀ x, zsv (zu M1 222 0 v) 4 x = zsv M 4 x) ∧ P1 178 0 = 0 ∧ P1 222 0 = v) ∨ ∃ e v M1 P1, zex k 0 [] ((2, 1) :: al) M (zKs, n, m) = some ((8, e), M1, (zKs, n - 1, m - 6)) ∧ zex k' 0 [] ((2, 178) :: al') M1 (zKs, n - 1, m - 6) = some ((rt, v), P1, (zKs, n - 1, m - 6)) ∧ zLw (q + 1) L P1 ∧ zsl M1 4 = L ∧ (∀ x, zsv M1 4 x = zsv M 4 x) ∧ ((e < 2000 ∧ P1 178 0 = 1) ∨ (¬ e < 2000 ∧ P1 178 0 = 2)) := by
  obtain ⟨M1, P1, a1, -, -, a2⟩ := h M H.1
  rcases a2 with ⟨v, a2, -, -⟩ | ⟨e, v, a2, -, -⟩
  · obtain ⟨M2, P2, b1, b3, b4, b2⟩ := h (zu M1 222 0 v) (H.1.rows (fun _ _ _ _ => rfl) (fun r y _ _ => by rw [zun (by omega)]; exact a1 r y (by omega)))
    rcases b2 with ⟨w, b2, b5, b6⟩ | ⟨e, w, b2, b5, b6⟩
    · have e := a2.symm.trans b2
      simp only [Option.some.injEq, Prod.mk.injEq, true_and, and_true] at e
      obtain ⟨rfl, rfl⟩ := e
      have f1 : ∀ y, zu M1 222 0 v (-5) y = M (-5) y := fun y => by rw [zun (by omega)]; exact a1 _ _ (by omega)
      exact .inl ⟨v, M1, P2, a2, b5, H.of ((b4.mono (by omega)).rows (fun r y _ _ => by rw [b3 r y (by omega), zun (by omega)]) (fun _ _ _ _ => rfl)) (fun y => by rw [b3 _ _ (by omega), f1]), (f1 (-1)).trans H.2.1, f1, b6, by rw [b3 _ _ (by omega), zus]⟩
    · have e := a2.symm.trans b2
      simp only [Option.some.injEq, Prod.mk.injEq, true_and, and_true] at e
      exact absurd e.1.1 hrt
  · obtain ⟨M2, P2, b1, b3, b4, b2⟩ := h M1 (H.1.rows (fun _ _ _ _ => rfl) (fun r y _ _ => a1 r y (by omega)))
    rcases b2 with ⟨w, b2, b5, b6⟩ | ⟨e', w, b2, b5, b6⟩
    · have e := a2.symm.trans b2
      simp only [Option.some.injEq, Prod.mk.injEq, true_and, and_true] at e
      exact absurd e.1.1.symm hrt
    · have e := a2.symm.trans b2
      simp only [Option.some.injEq, Prod.mk.injEq, true_and, and_true] at e
      obtain ⟨rfl, rfl⟩ := e
      have f1 : ∀ y, M1 (-5) y = M (-5) y := fun y => a1 _ _ (by omega)
      exact .inr ⟨_, w, M1, P2, a2, b5, H.of ((b4.mono (by omega)).rows (fun r y _ _ => b3 r y (by omega)) (fun _ _ _ _ => rfl)) (fun y => by rw [b3 _ _ (by omega), f1]), (f1 (-1)).trans H.2.1, f1, b6⟩
theorem e224_n {x1 r0 r2 v : Int} {M M1 : zM} {X X1 : zX} (h : zkd X r0 = (17, 0)) (hc : zex 105 0 [] [(2, r0), (0, x1)] M X = some ((0, v), M1, X1)) : zex 224 4 [(0, x1), (2, r0), (0, 0), (2, r2)] [(2, r0), (0, x1), (2, r2), (9, 0)] M X = zex 224 5 [(0, v), (0, 0), (2, r2)] [(2, r0), (0, x1), (2, r2), (9, 0)] M1 X1 := by
  rw [zex_eq]
  refine Eq.trans (zg_pos h) ?_
  refine Eq.trans (congrArg (fun o => zbT o _ _) hc) ?_
  rfl
theorem e224_t {x1 r0 r2 v : Int} {M M1 : zM} {X X1 : zX} (h : zkd X r0 = (17, 0)) (hc : zex 105 0 [] [(2, r0), (0, x1)] M X = some ((8, v), M1, X1)) : zex 224 4 [(0, x1), (2, r0), (0, 0), (2, r2)] [(2, r0), (0, x1), (2, r2), (9, 0)] M X = if v < 2000 then zex 224 9 [] [(2, r0), (0, x1), (2, r2), (9, 0)] M1 X1 else zex 224 12 [] [(2, r0), (0, x1), (2, r2), (9, 0)] M1 X1 := by
  rw [zex_eq]
  refine Eq.trans (zg_pos h) ?_
  refine Eq.trans (congrArg (fun o => zbT o _ _) hc) ?_
  rfl
theorem e225_n {x1 x2 r0 r2 v : Int} {M M1 : zM} {X X1 : zX} (h : zkd X r0 = (17, 0)) (hc : zex 106 0 [] [(2, r0), (0, x1), (0, x2)] M X = some ((0, v), M1, X1)) : zex 225 5 [(0, x2), (0, x1), (2, r0), (0, 0), (2, r2)] [(2, r0), (0, x1), (0, x2), (2, r2), (9, 0)] M X = zex 225 6 [(0, v), (0, 0), (2, r2)] [(2, r0), (0, x1), (0, x2), (2, r2), (9, 0)] M1 X1 := by
  rw [zex_eq]
  refine Eq.trans (zg_pos h) ?_
  refine Eq.trans (congrArg (fun o => zbT o _ _) hc) ?_
  rfl
theorem e225_t {x1 x2 r0 r2 v : Int} {M M1 : zM} {X X1 : zX} (h : zkd X r0 = (17, 0)) (hc : zex 106 0 [] [(2, r0), (0, x1), (0, x2)] M X = some ((8, v), M1, X1)) : zex 225 5 [(0, x2), (0, x1), (2, r0), (0, 0), (2, r2)] [(2, r0), (0, x1), (0, x2), (2, r2), (9, 0)] M X = if v < 2000 then zex 225 10 [] [(2, r0), (0, x1), (0, x2), (2, r2), (9, 0)] M1 X1 else zex 225 13 [] [(2, r0), (0, x1), (0, x2), (2, r2), (9, 0)] M1 X1 := by
  rw [zex_eq]
  refine Eq.trans (zg_pos h) ?_
  refine Eq.trans (congrArg (fun o => zbT o _ _) hc) ?_
  rfl
theorem e226_n {x1 x2 r0 r2 v : Int} {M M1 : zM} {X X1 : zX} (h : zkd X r0 = (17, 0)) (hc : zex 108 0 [] [(2, r0), (0, x1), (0, x2)] M X = some ((0, v), M1, X1)) : zex 226 5 [(0, x2), (0, x1), (2, r0), (0, 0), (2, r2)] [(2, r0), (0, x1), (0, x2), (2, r2), (9, 0)] M X = zex 226 6 [(0, v), (0, 0), (2, r2)] [(2, r0), (0, x1), (0, x2), (2, r2), (9, 0)] M1 X1 := by
  rw [zex_eq]
  refine Eq.trans (zg_pos h) ?_
  refine Eq.trans (congrArg (fun o => zbT o _ _) hc) ?_
  rfl
theorem e226_t {x1 x2 r0 r2 v : Int} {M M1 : zM} {X X1 : zX} (h : zkd X r0 = (17, 0)) (hc : zex 108 0 [] [(2, r0), (0, x1), (0, x2)] M X = some ((8, v), M1, X1)) : zex 226 5 [(0, x2), (0, x1), (2, r0), (0, 0), (2, r2)] [(2, r0), (0, x1), (0, x2), (2, r2), (9, 0)] M X = if v < 2000 then zex 226 10 [] [(2, r0), (0, x1), (0, x2), (2, r2), (9, 0)] M1 X1 else zex 226 13 [] [(2, r0), (0, x1), (0, x2), (2, r2), (9, 0)] M1 X1 := by
  rw [zex_eq]
  refine Eq.trans (zg_pos h) ?_
  refine Eq.trans (congrArg (fun o => zbT o _ _) hc) ?_
  rfl
theorem e227_n {x1 x2 r0 r2 v : Int} {M M1 : zM} {X X1 : zX} (h : zkd X r0 = (17, 0)) (hc : zex 129 0 [] [(2, r0), (0, x1), (0, x2), (9, 0)] M X = some ((1, v), M1, X1)) : zex 227 5 [(0, x2), (0, x1), (2, r0), (0, 0), (2, r2)] [(2, r0), (0, x1), (0, x2), (2, r2), (9, 0)] M X = zex 227 6 [(1, v), (0, 0), (2, r2)] [(2, r0), (0, x1), (0, x2), (2, r2), (9, 0)] M1 X1 := by
  rw [zex_eq]
  refine Eq.trans (zg_pos h) ?_
  refine Eq.trans (congrArg (fun o => zbT o _ _) hc) ?_
  rfl
theorem e227_t {x1 x2 r0 r2 v : Int} {M M1 : zM} {X X1 : zX} (h : zkd X r0 = (17, 0)) (hc : zex 129 0 [] [(2, r0), (0, x1), (0, x2), (9, 0)] M X = some ((8, v), M1, X1)) : zex 227 5 [(0, x2), (0, x1), (2, r0), (0, 0), (2, r2)] [(2, r0), (0, x1), (0, x2), (2, r2), (9, 0)] M X = if v < 2000 then zex 227 9 [] [(2, r0), (0, x1), (0, x2), (2, r2), (9, 0)] M1 X1 else zex 227 12 [] [(2, r0), (0, x1), (0, x2), (2, r2), (9, 0)] M1 X1 := by
  rw [zex_eq]
  refine Eq.trans (zg_pos h) ?_
  refine Eq.trans (congrArg (fun o => zbT o _ _) hc) ?_
  rfl
theorem lw_326 {q L x : Int} {M : zM} {n m : Nat} {e5 e6 e7 : zV} (H : zLw q L M) (hq : q ≤ 1000) (h0 : 0 ≤ q) (hn : 1 ≤ n) (hm : 6 ≤ m) (hx : 0 ≤ x ∧ x + 6 ≤ L) (hL : L ≤ 3072) : zLn q L x n m (zex 228 326 [] [(3, 4), (2, 1), (2, 178), (2, 222), (0, x), e5, e6, e7] M (zKs, n, m)) := by
  have b0 := H.2.1
  rcases lw_opt (rt := 0) H (by omega) (fun P hP => o_pose hP n m hn hm (zsv M 4 (x + 1))) with ⟨v, M1, P1, a1, a2, a3, a4, a5, a6, a7⟩ | ⟨e, v, M1, P1, a1, a2, a3, a4, a5, a6⟩
  · have s1 := (e224_n (r2 := 222) (zk_1 n m) a1).trans (q224_5 ..)
    refine ⟨P1, n, m, (0, 0), (0, v), e7, ?_, a3, by omega, by omega⟩
    simp (disch := omega) only [q228_326, q228_360, q228_1000, q224_0, s1, q142_0, b0, a4, a5, a2, a6, a7, show zcmp v v = 0 by unfold zcmp; rw [if_neg (by omega), if_pos rfl], zk_1, zk_178, zk_222, zg_pos, zI, ↓reduceIte, Int.reduceEq, Int.reduceLE, Int.reduceLT, Int.reduceAdd, Int.reduceSub, Int.reduceMul, Int.reduceNeg, zg_T, zbI_ok, zbL_ok, zbN_ok, zite1, zite2, zite3, zem, Int.cast_ofNat_Int, and_self, and_true, true_and, or_true, true_or, or_self, ite_not, if_true, if_false, not_true_eq_false, not_false_eq_true]
  · have s1 := e224_t (r2 := 222) (zk_1 n m) a1
    rcases a6 with ⟨g1, g2⟩ | ⟨g1, g2⟩
    · refine ⟨P1, n - 1, m - 6, (0, 1), (0, v), e7, ?_, a3, by omega, by omega⟩
      simp (disch := omega) only [q228_326, q228_360, q228_1000, q224_0, q224_9, s1, g1, g2, q142_0, b0, a4, a5, a2, zk_1, zk_178, zk_222, zg_pos, zI, ↓reduceIte, Int.reduceEq, Int.reduceLE, Int.reduceLT, Int.reduceAdd, Int.reduceSub, Int.reduceMul, Int.reduceNeg, zg_T, zbI_ok, zbL_ok, zbN_ok, zite1, zite2, zite3, zem, Int.cast_ofNat_Int, and_self, and_true, true_and, or_true, true_or, or_self, ite_not, if_true, if_false, not_true_eq_false, not_false_eq_true]
    · refine ⟨P1, n - 1, m - 6, (0, 2), (0, v), e7, ?_, a3, by omega, by omega⟩
      simp (disch := omega) only [q228_326, q228_360, q228_1000, q224_0, q224_12, s1, g1, g2, q142_0, b0, a4, a5, a2, zk_1, zk_178, zk_222, zg_pos, zI, ↓reduceIte, Int.reduceEq, Int.reduceLE, Int.reduceLT, Int.reduceAdd, Int.reduceSub, Int.reduceMul, Int.reduceNeg, zg_T, zbI_ok, zbL_ok, zbN_ok, zite1, zite2, zite3, zem, Int.cast_ofNat_Int, and_self, and_true, true_and, or_true, true_or, or_self, ite_not, if_true, if_false, not_true_eq_false, not_false_eq_true]
theorem lw_361 {q L x : Int} {M : zM} {n m : Nat} {e5 e6 e7 : zV} (H : zLw q L M) (hq : q ≤ 1000) (h0 : 0 ≤ q) (hn : 1 ≤ n) (hm : 6 ≤ m) (hx : 0 ≤ x ∧ x + 6 ≤ L) (hL : L ≤ 3072) : zLn q L x n m (zex 228 361 [] [(3, 4), (2, 1), (2, 178), (2, 222), (0, x), e5, e6, e7] M (zKs, n, m)) := by
  have b0 := H.2.1
  rcases lw_opt (rt := 0) H (by omega) (fun P hP => o_acted hP n m hn hm (zsv M 4 (x + 1)) (zsv M 4 (x + 2))) with ⟨v, M1, P1, a1, a2, a3, a4, a5, a6, a7⟩ | ⟨e, v, M1, P1, a1, a2, a3, a4, a5, a6⟩
  · have s1 := (e225_n (r2 := 222) (zk_1 n m) a1).trans (q225_6 ..)
    refine ⟨P1, n, m, (0, 0), (0, v), e7, ?_, a3, by omega, by omega⟩
    simp (disch := omega) only [q228_361, q228_405, q228_1000, q225_0, s1, q142_0, b0, a4, a5, a2, a6, a7, show zcmp v v = 0 by unfold zcmp; rw [if_neg (by omega), if_pos rfl], zk_1, zk_178, zk_222, zg_pos, zI, ↓reduceIte, Int.reduceEq, Int.reduceLE, Int.reduceLT, Int.reduceAdd, Int.reduceSub, Int.reduceMul, Int.reduceNeg, zg_T, zbI_ok, zbL_ok, zbN_ok, zite1, zite2, zite3, zem, Int.cast_ofNat_Int, and_self, and_true, true_and, or_true, true_or, or_self, ite_not, if_true, if_false, not_true_eq_false, not_false_eq_true]
  · have s1 := e225_t (r2 := 222) (zk_1 n m) a1
    rcases a6 with ⟨g1, g2⟩ | ⟨g1, g2⟩
    · refine ⟨P1, n - 1, m - 6, (0, 1), (0, v), e7, ?_, a3, by omega, by omega⟩
      simp (disch := omega) only [q228_361, q228_405, q228_1000, q225_0, q225_10, s1, g1, g2, q142_0, b0, a4, a5, a2, zk_1, zk_178, zk_222, zg_pos, zI, ↓reduceIte, Int.reduceEq, Int.reduceLE, Int.reduceLT, Int.reduceAdd, Int.reduceSub, Int.reduceMul, Int.reduceNeg, zg_T, zbI_ok, zbL_ok, zbN_ok, zite1, zite2, zite3, zem, Int.cast_ofNat_Int, and_self, and_true, true_and, or_true, true_or, or_self, ite_not, if_true, if_false, not_true_eq_false, not_false_eq_true]
    · refine ⟨P1, n - 1, m - 6, (0, 2), (0, v), e7, ?_, a3, by omega, by omega⟩
      simp (disch := omega) only [q228_361, q228_405, q228_1000, q225_0, q225_13, s1, g1, g2, q142_0, b0, a4, a5, a2, zk_1, zk_178, zk_222, zg_pos, zI, ↓reduceIte, Int.reduceEq, Int.reduceLE, Int.reduceLT, Int.reduceAdd, Int.reduceSub, Int.reduceMul, Int.reduceNeg, zg_T, zbI_ok, zbL_ok, zbN_ok, zite1, zite2, zite3, zem, Int.cast_ofNat_Int, and_self, and_true, true_and, or_true, true_or, or_self, ite_not, if_true, if_false, not_true_eq_false, not_false_eq_true]
theorem lw_433 {q L x : Int} {M : zM} {n m : Nat} {e5 e6 e7 : zV} (H : zLw q L M) (hq : q ≤ 1000) (h0 : 0 ≤ q) (hn : 1 ≤ n) (hm : 6 ≤ m) (hx : 0 ≤ x ∧ x + 6 ≤ L) (hL : L ≤ 3072) : zLn q L x n m (zex 228 433 [] [(3, 4), (2, 1), (2, 178), (2, 222), (0, x), e5, e6, e7] M (zKs, n, m)) := by
  have b0 := H.2.1
  rcases lw_opt (rt := 0) H (by omega) (fun P hP => o_where hP n m hn hm (zsv M 4 (x + 1)) (zsv M 4 (x + 2))) with ⟨v, M1, P1, a1, a2, a3, a4, a5, a6, a7⟩ | ⟨e, v, M1, P1, a1, a2, a3, a4, a5, a6⟩
  · have s1 := (e226_n (r2 := 222) (zk_1 n m) a1).trans (q226_6 ..)
    refine ⟨P1, n, m, (0, 0), (0, v), e7, ?_, a3, by omega, by omega⟩
    simp (disch := omega) only [q228_433, q228_477, q228_1000, q226_0, s1, q142_0, b0, a4, a5, a2, a6, a7, show zcmp v v = 0 by unfold zcmp; rw [if_neg (by omega), if_pos rfl], zk_1, zk_178, zk_222, zg_pos, zI, ↓reduceIte, Int.reduceEq, Int.reduceLE, Int.reduceLT, Int.reduceAdd, Int.reduceSub, Int.reduceMul, Int.reduceNeg, zg_T, zbI_ok, zbL_ok, zbN_ok, zite1, zite2, zite3, zem, Int.cast_ofNat_Int, and_self, and_true, true_and, or_true, true_or, or_self, ite_not, if_true, if_false, not_true_eq_false, not_false_eq_true]
  · have s1 := e226_t (r2 := 222) (zk_1 n m) a1
    rcases a6 with ⟨g1, g2⟩ | ⟨g1, g2⟩
    · refine ⟨P1, n - 1, m - 6, (0, 1), (0, v), e7, ?_, a3, by omega, by omega⟩
      simp (disch := omega) only [q228_433, q228_477, q228_1000, q226_0, q226_10, s1, g1, g2, q142_0, b0, a4, a5, a2, zk_1, zk_178, zk_222, zg_pos, zI, ↓reduceIte, Int.reduceEq, Int.reduceLE, Int.reduceLT, Int.reduceAdd, Int.reduceSub, Int.reduceMul, Int.reduceNeg, zg_T, zbI_ok, zbL_ok, zbN_ok, zite1, zite2, zite3, zem, Int.cast_ofNat_Int, and_self, and_true, true_and, or_true, true_or, or_self, ite_not, if_true, if_false, not_true_eq_false, not_false_eq_true]
    · refine ⟨P1, n - 1, m - 6, (0, 2), (0, v), e7, ?_, a3, by omega, by omega⟩
      simp (disch := omega) only [q228_433, q228_477, q228_1000, q226_0, q226_13, s1, g1, g2, q142_0, b0, a4, a5, a2, zk_1, zk_178, zk_222, zg_pos, zI, ↓reduceIte, Int.reduceEq, Int.reduceLE, Int.reduceLT, Int.reduceAdd, Int.reduceSub, Int.reduceMul, Int.reduceNeg, zg_T, zbI_ok, zbL_ok, zbN_ok, zite1, zite2, zite3, zem, Int.cast_ofNat_Int, and_self, and_true, true_and, or_true, true_or, or_self, ite_not, if_true, if_false, not_true_eq_false, not_false_eq_true]
theorem lw_882 {q L x : Int} {M : zM} {n m : Nat} {e5 e6 e7 : zV} (H : zLw q L M) (hq : q ≤ 1000) (h0 : 0 ≤ q) (hn : 1 ≤ n) (hm : 6 ≤ m) (hx : 0 ≤ x ∧ x + 6 ≤ L) (hL : L ≤ 3072) : zLn q L x n m (zex 228 882 [] [(3, 4), (2, 1), (2, 178), (2, 222), (0, x), e5, e6, e7] M (zKs, n, m)) := by
  have b0 := H.2.1
  rcases lw_opt (rt := 1) H (by omega) (fun P hP => o_at hP n m hn hm (zsv M 4 (x + 1)) (zsv M 4 (x + 2))) with ⟨v, M1, P1, a1, a2, a3, a4, a5, a6, a7⟩ | ⟨e, v, M1, P1, a1, a2, a3, a4, a5, a6⟩
  · have s1 := (e227_n (r2 := 222) (zk_1 n m) a1).trans (q227_6 ..)
    refine ⟨P1, n, m, (0, 0), (1, v), (9, 0), ?_, a3, by omega, by omega⟩
    simp (disch := omega) only [q228_882, q228_925, q228_1000, q227_0, s1, q142_0, b0, a4, a5, a2, a6, a7, show zcmp v v = 0 by unfold zcmp; rw [if_neg (by omega), if_pos rfl], zk_1, zk_178, zk_222, zg_pos, zI, ↓reduceIte, Int.reduceEq, Int.reduceLE, Int.reduceLT, Int.reduceAdd, Int.reduceSub, Int.reduceMul, Int.reduceNeg, zg_T, zbI_ok, zbL_ok, zbN_ok, zite1, zite2, zite3, zem, Int.cast_ofNat_Int, and_self, and_true, true_and, or_true, true_or, or_self, ite_not, if_true, if_false, not_true_eq_false, not_false_eq_true]
  · have s1 := e227_t (r2 := 222) (zk_1 n m) a1
    rcases a6 with ⟨g1, g2⟩ | ⟨g1, g2⟩
    · refine ⟨P1, n - 1, m - 6, (0, 1), (1, v), (9, 0), ?_, a3, by omega, by omega⟩
      simp (disch := omega) only [q228_882, q228_925, q228_1000, q227_0, q227_9, s1, g1, g2, q142_0, b0, a4, a5, a2, zk_1, zk_178, zk_222, zg_pos, zI, ↓reduceIte, Int.reduceEq, Int.reduceLE, Int.reduceLT, Int.reduceAdd, Int.reduceSub, Int.reduceMul, Int.reduceNeg, zg_T, zbI_ok, zbL_ok, zbN_ok, zite1, zite2, zite3, zem, Int.cast_ofNat_Int, and_self, and_true, true_and, or_true, true_or, or_self, ite_not, if_true, if_false, not_true_eq_false, not_false_eq_true]
    · refine ⟨P1, n - 1, m - 6, (0, 2), (1, v), (9, 0), ?_, a3, by omega, by omega⟩
      simp (disch := omega) only [q228_882, q228_925, q228_1000, q227_0, q227_12, s1, g1, g2, q142_0, b0, a4, a5, a2, zk_1, zk_178, zk_222, zg_pos, zI, ↓reduceIte, Int.reduceEq, Int.reduceLE, Int.reduceLT, Int.reduceAdd, Int.reduceSub, Int.reduceMul, Int.reduceNeg, zg_T, zbI_ok, zbL_ok, zbN_ok, zite1, zite2, zite3, zem, Int.cast_ofNat_Int, and_self, and_true, true_and, or_true, true_or, or_self, ite_not, if_true, if_false, not_true_eq_false, not_false_eq_true]
