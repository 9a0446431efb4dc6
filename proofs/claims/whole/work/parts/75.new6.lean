/-! CONSTRUCTORS: cart, tapes of the class -/
theorem k91_0 {M : zM} {n m : Nat} {d : zV} (hn : 15 ≤ n) (hm : 1180 ≤ m) : ∃ M', zex 91 0 [] [(2, 1), d] M (zKs.take 1, n, m) = zex 91 7 [] [(2, 1), d] M' (zKs.take 16, n - 15, m - 1180) ∧ zQp 16 M' ∧ ∀ a y, a < 1 → M' a y = M a y := by
  have h : zQp 1 M := fun p hp h1 h2 => by
    have := List.all_eq_true.mp (show (zPCl.all fun p => !decide (p.2.2 ≤ 1)) = true by decide +kernel) p hp
    simp at this
    omega
  have t1 : zKs.take 1 ++ [(6, 0)] = zKs.take 2 := by decide +kernel
  have l1 : (zKs.take 1).length = 1 := by decide +kernel
  have l2 : ((zKs.take 2).length : Int) = 2 := by decide +kernel
  have kp := zkT (j := 2) (r := 2) (kd := (6, 0)) (by decide +kernel)
  have t2 : zKs.take 2 ++ [(3, 3), (0, 801), (7, 0), (0, 40), (0, 40), (0, 40), (7, 0), (0, 40), (0, 40), (0, 40), (7, 0), (0, 40), (0, 40), (0, 40)] = zKs.take 16 := by decide +kernel
  have kr2 := zkT (j := 16) (r := 1) (kd := (17, 0)) (by decide +kernel)
  obtain ⟨M1, a1, a2, a3⟩ := k0 (M := zclr M 2) (n := n - 1) (m := m - 4) (d := (9, 0)) l2 (kp _ _) (by omega) (by omega)
  rw [t2] at a1
  unfold zCn at a2
  simp only [Int.reduceAdd] at a2
  have a4 : ∀ p ∈ [((2 : Int), (0 : Int), (3 : Int)), ((2 : Int), (1 : Int), (4 : Int)), ((3 : Int), (0 : Int), (5 : Int)), ((3 : Int), (1 : Int), (9 : Int)), ((3 : Int), (2 : Int), (13 : Int)), ((5 : Int), (1 : Int), (6 : Int)), ((5 : Int), (2 : Int), (7 : Int)), ((5 : Int), (3 : Int), (8 : Int)), ((9 : Int), (1 : Int), (10 : Int)), ((9 : Int), (2 : Int), (11 : Int)), ((9 : Int), (3 : Int), (12 : Int)), ((13 : Int), (1 : Int), (14 : Int)), ((13 : Int), (2 : Int), (15 : Int)), ((13 : Int), (3 : Int), (16 : Int))], M1 p.1 p.2.1 = p.2.2 := by
    simp only [List.forall_mem_cons, List.not_mem_nil, false_implies, implies_true, and_true]
    obtain ⟨⟨x1, x2⟩, ⟨x3, x4, x5⟩, ⟨x6, x7, x8⟩, ⟨x9, x10, x11⟩, x12, x13, x14⟩ := a2
    exact ⟨x1, x2, x3, x4, x5, x6, x7, x8, x9, x10, x11, x12, x13, x14⟩
  have f0 : ∀ a y, a ≤ 1 → (a ≠ 1 ∨ y ≠ 0) → zu M1 1 0 2 a y = M a y := fun a y ha hy => by
    by_cases e : a = 1
    · rw [zun2 (by omega), a3 _ _ (by omega) (.inl (by omega)), zcn (by omega)]
    · rw [zun e, a3 _ _ (by omega) (.inl (by omega)), zcn (by omega)]
  refine ⟨zu M1 1 0 2, ?_, h.go (new := ((1 : Int), (0 : Int), (2 : Int)) :: [((2 : Int), (0 : Int), (3 : Int)), ((2 : Int), (1 : Int), (4 : Int)), ((3 : Int), (0 : Int), (5 : Int)), ((3 : Int), (1 : Int), (9 : Int)), ((3 : Int), (2 : Int), (13 : Int)), ((5 : Int), (1 : Int), (6 : Int)), ((5 : Int), (2 : Int), (7 : Int)), ((5 : Int), (3 : Int), (8 : Int)), ((9 : Int), (1 : Int), (10 : Int)), ((9 : Int), (2 : Int), (11 : Int)), ((9 : Int), (3 : Int), (12 : Int)), ((13 : Int), (1 : Int), (14 : Int)), ((13 : Int), (2 : Int), (15 : Int)), ((13 : Int), (3 : Int), (16 : Int))]) (b := 1) (f := 0) f0 (fun p hp => ?_) (by decide +kernel), fun a y ha => f0 a y (by omega) (.inl (by omega))⟩
  · rw [q91_0]
    simp (disch := omega) only [t1, l1, kr2, kp, a1, Int.natCast_add, Int.natCast_one, Nat.sub_sub, Nat.reduceAdd, zg_pos, ↓reduceIte, Int.reduceEq, Int.reduceLE, Int.reduceLT, Int.reduceAdd, Int.reduceSub, Int.reduceMul, Int.reduceNeg, zg_T, zbI_ok, zbL_ok, zbN_ok, zite1, zite2, zite3, zem, Int.cast_ofNat_Int, and_self, and_true, true_and, or_true, true_or, or_self, ite_not, if_true, if_false, not_true_eq_false, not_false_eq_true]
  · rcases List.mem_cons.mp hp with e | e
    · rw [e]; exact zus
    · have g : p.1 ≠ 1 := by
        have := List.all_eq_true.mp (show ([((2 : Int), (0 : Int), (3 : Int)), ((2 : Int), (1 : Int), (4 : Int)), ((3 : Int), (0 : Int), (5 : Int)), ((3 : Int), (1 : Int), (9 : Int)), ((3 : Int), (2 : Int), (13 : Int)), ((5 : Int), (1 : Int), (6 : Int)), ((5 : Int), (2 : Int), (7 : Int)), ((5 : Int), (3 : Int), (8 : Int)), ((9 : Int), (1 : Int), (10 : Int)), ((9 : Int), (2 : Int), (11 : Int)), ((9 : Int), (3 : Int), (12 : Int)), ((13 : Int), (1 : Int), (14 : Int)), ((13 : Int), (2 : Int), (15 : Int)), ((13 : Int), (3 : Int), (16 : Int))].all fun p => !decide (p.1 = 1)) = true by decide +kernel) p e
        simpa using this
      rw [zun g]
      exact a4 p e
theorem k91_52 {M : zM} {n m : Nat} {d : zV} (h : zQp 74 M) (hn : 1 ≤ n) (hm : 6 ≤ m) : ∃ M', zex 91 52 [] [(2, 1), d] M (zKs.take 74, n, m) = zex 91 58 [] [(2, 1), (0, 0)] M' (zKs.take 75, n - 1, m - 6) ∧ zQp 75 M' ∧ ∀ a y, a < 1 → M' a y = M a y := by
  have t1 : zKs.take 74 ++ [(4, 6)] = zKs.take 75 := by decide +kernel
  have l1 : (zKs.take 74).length = 74 := by decide +kernel
  have kr := zkT (j := 75) (r := 1) (kd := (17, 0)) (by decide +kernel)
  have f0 : ∀ a y, a ≤ 74 → (a ≠ 1 ∨ y ≠ 8) → zu (zclr M 75) 1 8 75 a y = M a y := fun a y ha hy => by
    by_cases e : a = 1
    · rw [zun2 (by omega), zcn (by omega)]
    · rw [zun e, zcn (by omega)]
  refine ⟨zu (zclr M 75) 1 8 75, ?_, h.go (new := [((1 : Int), (8 : Int), (75 : Int))]) (b := 1) (f := 8) f0 (fun p hp => by
    have e := List.mem_singleton.mp hp
    rw [e]; exact zus) (by decide +kernel), fun a y ha => f0 a y (by omega) (by omega)⟩
  rw [q91_52]
  simp (disch := omega) only [q91_56, t1, l1, kr, Int.reduceToNat, Int.natCast_add, Nat.sub_sub, Nat.reduceAdd, zg_pos, ↓reduceIte, Int.reduceEq, Int.reduceLE, Int.reduceLT, Int.reduceAdd, Int.reduceSub, Int.reduceMul, Int.reduceNeg, zg_T, zbI_ok, zbL_ok, zbN_ok, zite1, zite2, zite3, zem, Int.cast_ofNat_Int, and_self, and_true, true_and, or_true, true_or, or_self, ite_not, if_true, if_false, not_true_eq_false, not_false_eq_true]
theorem k91_t0 {M : zM} {n m : Nat} (h : zQp 75 M) (hn : 17 ≤ n) (hm : 1248 ≤ m) : ∃ M', zex 91 58 [] [(2, 1), (0, 0)] M (zKs.take 75, n, m) = zex 91 58 [] [(2, 1), (0, 1)] M' (zKs.take 92, n - 17, m - 1248) ∧ zQp 92 M' ∧ M' 76 0 = 0 ∧ ∀ a y, a ≤ 75 → a ≠ 75 → M' a y = M a y := by
  have t1 : zKs.take 75 ++ [(14, 0)] = zKs.take 76 := by decide +kernel
  have l1 : (zKs.take 75).length = 75 := by decide +kernel
  have l2 : ((zKs.take 76).length : Int) = 76 := by decide +kernel
  have kr := zkT (j := 75) (r := 1) (kd := (17, 0)) (by decide +kernel)
  have kp := zkT (j := 76) (r := 76) (kd := (14, 0)) (by decide +kernel)
  have t2 : zKs.take 76 ++ [(1, 64), (6, 0), (3, 3), (0, 801), (7, 0), (0, 40), (0, 40), (0, 40), (7, 0), (0, 40), (0, 40), (0, 40), (7, 0), (0, 40), (0, 40), (0, 40)] = zKs.take 92 := by decide +kernel
  have kr2 := zkT (j := 92) (r := 75) (kd := (4, 6)) (by decide +kernel)
  have kr3 := zkT (j := 92) (r := 76) (kd := (14, 0)) (by decide +kernel)
  have v8 := h (1, 8, 75) (by decide +kernel) (by decide) (by decide)
  dsimp only at v8
  obtain ⟨M1, a1, a2, a3⟩ := k74 (M := zclr M 76) (n := n - 1) (m := m - 4) l2 (kp _ _) (by omega) (by omega)
  rw [t2] at a1
  unfold zCn at a2
  simp only [Int.reduceAdd] at a2
  have a4 : ∀ p ∈ [((76 : Int), (2 : Int), (77 : Int)), ((76 : Int), (3 : Int), (78 : Int)), ((78 : Int), (0 : Int), (79 : Int)), ((78 : Int), (1 : Int), (80 : Int)), ((79 : Int), (0 : Int), (81 : Int)), ((79 : Int), (1 : Int), (85 : Int)), ((79 : Int), (2 : Int), (89 : Int)), ((81 : Int), (1 : Int), (82 : Int)), ((81 : Int), (2 : Int), (83 : Int)), ((81 : Int), (3 : Int), (84 : Int)), ((85 : Int), (1 : Int), (86 : Int)), ((85 : Int), (2 : Int), (87 : Int)), ((85 : Int), (3 : Int), (88 : Int)), ((89 : Int), (1 : Int), (90 : Int)), ((89 : Int), (2 : Int), (91 : Int)), ((89 : Int), (3 : Int), (92 : Int))], M1 p.1 p.2.1 = p.2.2 := by
    simp only [List.forall_mem_cons, List.not_mem_nil, false_implies, implies_true, and_true]
    obtain ⟨y1, y2, ⟨x1, x2⟩, ⟨x3, x4, x5⟩, ⟨x6, x7, x8⟩, ⟨x9, x10, x11⟩, x12, x13, x14⟩ := a2
    exact ⟨y1, y2, x1, x2, x3, x4, x5, x6, x7, x8, x9, x10, x11, x12, x13, x14⟩
  have f0 : ∀ a y, a ≤ 75 → (a ≠ 75 ∨ y ≠ 0) → zu M1 75 0 76 a y = M a y := fun a y ha hy => by
    by_cases e : a = 75
    · rw [zun2 (by omega), a3 _ _ (by omega) (.inl (by omega)), zcn (by omega)]
    · rw [zun e, a3 _ _ (by omega) (.inl (by omega)), zcn (by omega)]
  refine ⟨zu M1 75 0 76, ?_, h.go (new := ((75 : Int), (0 : Int), (76 : Int)) :: [((76 : Int), (2 : Int), (77 : Int)), ((76 : Int), (3 : Int), (78 : Int)), ((78 : Int), (0 : Int), (79 : Int)), ((78 : Int), (1 : Int), (80 : Int)), ((79 : Int), (0 : Int), (81 : Int)), ((79 : Int), (1 : Int), (85 : Int)), ((79 : Int), (2 : Int), (89 : Int)), ((81 : Int), (1 : Int), (82 : Int)), ((81 : Int), (2 : Int), (83 : Int)), ((81 : Int), (3 : Int), (84 : Int)), ((85 : Int), (1 : Int), (86 : Int)), ((85 : Int), (2 : Int), (87 : Int)), ((85 : Int), (3 : Int), (88 : Int)), ((89 : Int), (1 : Int), (90 : Int)), ((89 : Int), (2 : Int), (91 : Int)), ((89 : Int), (3 : Int), (92 : Int))]) (b := 75) (f := 0) f0 (fun p hp => ?_) (by decide +kernel), ?_, fun a y ha hy => f0 a y (by omega) (.inl hy)⟩
  · rw [q91_58]
    simp (disch := omega) only [v8, t1, l1, kr, kr2, kr3, kp, a1, Int.natCast_add, Nat.sub_sub, Nat.reduceAdd, zg_pos, zI, ↓reduceIte, Int.reduceEq, Int.reduceLE, Int.reduceLT, Int.reduceAdd, Int.reduceSub, Int.reduceMul, Int.reduceNeg, zg_T, zbI_ok, zbL_ok, zbN_ok, zite1, zite2, zite3, zem, Int.cast_ofNat_Int, and_self, and_true, true_and, or_true, true_or, or_self, ite_not, if_true, if_false, not_true_eq_false, not_false_eq_true]
  · rcases List.mem_cons.mp hp with e | e
    · rw [e]; exact zus
    · have g : p.1 ≠ 75 := by
        have := List.all_eq_true.mp (show ([((76 : Int), (2 : Int), (77 : Int)), ((76 : Int), (3 : Int), (78 : Int)), ((78 : Int), (0 : Int), (79 : Int)), ((78 : Int), (1 : Int), (80 : Int)), ((79 : Int), (0 : Int), (81 : Int)), ((79 : Int), (1 : Int), (85 : Int)), ((79 : Int), (2 : Int), (89 : Int)), ((81 : Int), (1 : Int), (82 : Int)), ((81 : Int), (2 : Int), (83 : Int)), ((81 : Int), (3 : Int), (84 : Int)), ((85 : Int), (1 : Int), (86 : Int)), ((85 : Int), (2 : Int), (87 : Int)), ((85 : Int), (3 : Int), (88 : Int)), ((89 : Int), (1 : Int), (90 : Int)), ((89 : Int), (2 : Int), (91 : Int)), ((89 : Int), (3 : Int), (92 : Int))].all fun p => !decide (p.1 = 75)) = true by decide +kernel) p e
        simpa using this
      rw [zun g]
      exact a4 p e
  · rw [zun (by omega), a3 _ _ (by omega) (.inr (by decide)), zcz]
theorem k91_t1 {M : zM} {n m : Nat} (h : zQp 92 M) (hn : 17 ≤ n) (hm : 1248 ≤ m) : ∃ M', zex 91 58 [] [(2, 1), (0, 1)] M (zKs.take 92, n, m) = zex 91 58 [] [(2, 1), (0, 2)] M' (zKs.take 109, n - 17, m - 1248) ∧ zQp 109 M' ∧ M' 93 0 = 0 ∧ ∀ a y, a ≤ 92 → a ≠ 75 → M' a y = M a y := by
  have t1 : zKs.take 92 ++ [(14, 0)] = zKs.take 93 := by decide +kernel
  have l1 : (zKs.take 92).length = 92 := by decide +kernel
  have l2 : ((zKs.take 93).length : Int) = 93 := by decide +kernel
  have kr := zkT (j := 92) (r := 1) (kd := (17, 0)) (by decide +kernel)
  have kp := zkT (j := 93) (r := 93) (kd := (14, 0)) (by decide +kernel)
  have t2 : zKs.take 93 ++ [(1, 64), (6, 0), (3, 3), (0, 801), (7, 0), (0, 40), (0, 40), (0, 40), (7, 0), (0, 40), (0, 40), (0, 40), (7, 0), (0, 40), (0, 40), (0, 40)] = zKs.take 109 := by decide +kernel
  have kr2 := zkT (j := 109) (r := 75) (kd := (4, 6)) (by decide +kernel)
  have kr3 := zkT (j := 109) (r := 93) (kd := (14, 0)) (by decide +kernel)
  have v8 := h (1, 8, 75) (by decide +kernel) (by decide) (by decide)
  dsimp only at v8
  obtain ⟨M1, a1, a2, a3⟩ := k74 (M := zclr M 93) (n := n - 1) (m := m - 4) l2 (kp _ _) (by omega) (by omega)
  rw [t2] at a1
  unfold zCn at a2
  simp only [Int.reduceAdd] at a2
  have a4 : ∀ p ∈ [((93 : Int), (2 : Int), (94 : Int)), ((93 : Int), (3 : Int), (95 : Int)), ((95 : Int), (0 : Int), (96 : Int)), ((95 : Int), (1 : Int), (97 : Int)), ((96 : Int), (0 : Int), (98 : Int)), ((96 : Int), (1 : Int), (102 : Int)), ((96 : Int), (2 : Int), (106 : Int)), ((98 : Int), (1 : Int), (99 : Int)), ((98 : Int), (2 : Int), (100 : Int)), ((98 : Int), (3 : Int), (101 : Int)), ((102 : Int), (1 : Int), (103 : Int)), ((102 : Int), (2 : Int), (104 : Int)), ((102 : Int), (3 : Int), (105 : Int)), ((106 : Int), (1 : Int), (107 : Int)), ((106 : Int), (2 : Int), (108 : Int)), ((106 : Int), (3 : Int), (109 : Int))], M1 p.1 p.2.1 = p.2.2 := by
    simp only [List.forall_mem_cons, List.not_mem_nil, false_implies, implies_true, and_true]
    obtain ⟨y1, y2, ⟨x1, x2⟩, ⟨x3, x4, x5⟩, ⟨x6, x7, x8⟩, ⟨x9, x10, x11⟩, x12, x13, x14⟩ := a2
    exact ⟨y1, y2, x1, x2, x3, x4, x5, x6, x7, x8, x9, x10, x11, x12, x13, x14⟩
  have f0 : ∀ a y, a ≤ 92 → (a ≠ 75 ∨ y ≠ 1) → zu M1 75 1 93 a y = M a y := fun a y ha hy => by
    by_cases e : a = 75
    · rw [zun2 (by omega), a3 _ _ (by omega) (.inl (by omega)), zcn (by omega)]
    · rw [zun e, a3 _ _ (by omega) (.inl (by omega)), zcn (by omega)]
  refine ⟨zu M1 75 1 93, ?_, h.go (new := ((75 : Int), (1 : Int), (93 : Int)) :: [((93 : Int), (2 : Int), (94 : Int)), ((93 : Int), (3 : Int), (95 : Int)), ((95 : Int), (0 : Int), (96 : Int)), ((95 : Int), (1 : Int), (97 : Int)), ((96 : Int), (0 : Int), (98 : Int)), ((96 : Int), (1 : Int), (102 : Int)), ((96 : Int), (2 : Int), (106 : Int)), ((98 : Int), (1 : Int), (99 : Int)), ((98 : Int), (2 : Int), (100 : Int)), ((98 : Int), (3 : Int), (101 : Int)), ((102 : Int), (1 : Int), (103 : Int)), ((102 : Int), (2 : Int), (104 : Int)), ((102 : Int), (3 : Int), (105 : Int)), ((106 : Int), (1 : Int), (107 : Int)), ((106 : Int), (2 : Int), (108 : Int)), ((106 : Int), (3 : Int), (109 : Int))]) (b := 75) (f := 1) f0 (fun p hp => ?_) (by decide +kernel), ?_, fun a y ha hy => f0 a y (by omega) (.inl hy)⟩
  · rw [q91_58]
    simp (disch := omega) only [v8, t1, l1, kr, kr2, kr3, kp, a1, Int.natCast_add, Nat.sub_sub, Nat.reduceAdd, zg_pos, zI, ↓reduceIte, Int.reduceEq, Int.reduceLE, Int.reduceLT, Int.reduceAdd, Int.reduceSub, Int.reduceMul, Int.reduceNeg, zg_T, zbI_ok, zbL_ok, zbN_ok, zite1, zite2, zite3, zem, Int.cast_ofNat_Int, and_self, and_true, true_and, or_true, true_or, or_self, ite_not, if_true, if_false, not_true_eq_false, not_false_eq_true]
  · rcases List.mem_cons.mp hp with e | e
    · rw [e]; exact zus
    · have g : p.1 ≠ 75 := by
        have := List.all_eq_true.mp (show ([((93 : Int), (2 : Int), (94 : Int)), ((93 : Int), (3 : Int), (95 : Int)), ((95 : Int), (0 : Int), (96 : Int)), ((95 : Int), (1 : Int), (97 : Int)), ((96 : Int), (0 : Int), (98 : Int)), ((96 : Int), (1 : Int), (102 : Int)), ((96 : Int), (2 : Int), (106 : Int)), ((98 : Int), (1 : Int), (99 : Int)), ((98 : Int), (2 : Int), (100 : Int)), ((98 : Int), (3 : Int), (101 : Int)), ((102 : Int), (1 : Int), (103 : Int)), ((102 : Int), (2 : Int), (104 : Int)), ((102 : Int), (3 : Int), (105 : Int)), ((106 : Int), (1 : Int), (107 : Int)), ((106 : Int), (2 : Int), (108 : Int)), ((106 : Int), (3 : Int), (109 : Int))].all fun p => !decide (p.1 = 75)) = true by decide +kernel) p e
        simpa using this
      rw [zun g]
      exact a4 p e
  · rw [zun (by omega), a3 _ _ (by omega) (.inr (by decide)), zcz]
theorem k91_t2 {M : zM} {n m : Nat} (h : zQp 109 M) (hn : 17 ≤ n) (hm : 1248 ≤ m) : ∃ M', zex 91 58 [] [(2, 1), (0, 2)] M (zKs.take 109, n, m) = zex 91 58 [] [(2, 1), (0, 3)] M' (zKs.take 126, n - 17, m - 1248) ∧ zQp 126 M' ∧ M' 110 0 = 0 ∧ ∀ a y, a ≤ 109 → a ≠ 75 → M' a y = M a y := by
  have t1 : zKs.take 109 ++ [(14, 0)] = zKs.take 110 := by decide +kernel
  have l1 : (zKs.take 109).length = 109 := by decide +kernel
  have l2 : ((zKs.take 110).length : Int) = 110 := by decide +kernel
  have kr := zkT (j := 109) (r := 1) (kd := (17, 0)) (by decide +kernel)
  have kp := zkT (j := 110) (r := 110) (kd := (14, 0)) (by decide +kernel)
  have t2 : zKs.take 110 ++ [(1, 64), (6, 0), (3, 3), (0, 801), (7, 0), (0, 40), (0, 40), (0, 40), (7, 0), (0, 40), (0, 40), (0, 40), (7, 0), (0, 40), (0, 40), (0, 40)] = zKs.take 126 := by decide +kernel
  have kr2 := zkT (j := 126) (r := 75) (kd := (4, 6)) (by decide +kernel)
  have kr3 := zkT (j := 126) (r := 110) (kd := (14, 0)) (by decide +kernel)
  have v8 := h (1, 8, 75) (by decide +kernel) (by decide) (by decide)
  dsimp only at v8
  obtain ⟨M1, a1, a2, a3⟩ := k74 (M := zclr M 110) (n := n - 1) (m := m - 4) l2 (kp _ _) (by omega) (by omega)
  rw [t2] at a1
  unfold zCn at a2
  simp only [Int.reduceAdd] at a2
  have a4 : ∀ p ∈ [((110 : Int), (2 : Int), (111 : Int)), ((110 : Int), (3 : Int), (112 : Int)), ((112 : Int), (0 : Int), (113 : Int)), ((112 : Int), (1 : Int), (114 : Int)), ((113 : Int), (0 : Int), (115 : Int)), ((113 : Int), (1 : Int), (119 : Int)), ((113 : Int), (2 : Int), (123 : Int)), ((115 : Int), (1 : Int), (116 : Int)), ((115 : Int), (2 : Int), (117 : Int)), ((115 : Int), (3 : Int), (118 : Int)), ((119 : Int), (1 : Int), (120 : Int)), ((119 : Int), (2 : Int), (121 : Int)), ((119 : Int), (3 : Int), (122 : Int)), ((123 : Int), (1 : Int), (124 : Int)), ((123 : Int), (2 : Int), (125 : Int)), ((123 : Int), (3 : Int), (126 : Int))], M1 p.1 p.2.1 = p.2.2 := by
    simp only [List.forall_mem_cons, List.not_mem_nil, false_implies, implies_true, and_true]
    obtain ⟨y1, y2, ⟨x1, x2⟩, ⟨x3, x4, x5⟩, ⟨x6, x7, x8⟩, ⟨x9, x10, x11⟩, x12, x13, x14⟩ := a2
    exact ⟨y1, y2, x1, x2, x3, x4, x5, x6, x7, x8, x9, x10, x11, x12, x13, x14⟩
  have f0 : ∀ a y, a ≤ 109 → (a ≠ 75 ∨ y ≠ 2) → zu M1 75 2 110 a y = M a y := fun a y ha hy => by
    by_cases e : a = 75
    · rw [zun2 (by omega), a3 _ _ (by omega) (.inl (by omega)), zcn (by omega)]
    · rw [zun e, a3 _ _ (by omega) (.inl (by omega)), zcn (by omega)]
  refine ⟨zu M1 75 2 110, ?_, h.go (new := ((75 : Int), (2 : Int), (110 : Int)) :: [((110 : Int), (2 : Int), (111 : Int)), ((110 : Int), (3 : Int), (112 : Int)), ((112 : Int), (0 : Int), (113 : Int)), ((112 : Int), (1 : Int), (114 : Int)), ((113 : Int), (0 : Int), (115 : Int)), ((113 : Int), (1 : Int), (119 : Int)), ((113 : Int), (2 : Int), (123 : Int)), ((115 : Int), (1 : Int), (116 : Int)), ((115 : Int), (2 : Int), (117 : Int)), ((115 : Int), (3 : Int), (118 : Int)), ((119 : Int), (1 : Int), (120 : Int)), ((119 : Int), (2 : Int), (121 : Int)), ((119 : Int), (3 : Int), (122 : Int)), ((123 : Int), (1 : Int), (124 : Int)), ((123 : Int), (2 : Int), (125 : Int)), ((123 : Int), (3 : Int), (126 : Int))]) (b := 75) (f := 2) f0 (fun p hp => ?_) (by decide +kernel), ?_, fun a y ha hy => f0 a y (by omega) (.inl hy)⟩
  · rw [q91_58]
    simp (disch := omega) only [v8, t1, l1, kr, kr2, kr3, kp, a1, Int.natCast_add, Nat.sub_sub, Nat.reduceAdd, zg_pos, zI, ↓reduceIte, Int.reduceEq, Int.reduceLE, Int.reduceLT, Int.reduceAdd, Int.reduceSub, Int.reduceMul, Int.reduceNeg, zg_T, zbI_ok, zbL_ok, zbN_ok, zite1, zite2, zite3, zem, Int.cast_ofNat_Int, and_self, and_true, true_and, or_true, true_or, or_self, ite_not, if_true, if_false, not_true_eq_false, not_false_eq_true]
  · rcases List.mem_cons.mp hp with e | e
    · rw [e]; exact zus
    · have g : p.1 ≠ 75 := by
        have := List.all_eq_true.mp (show ([((110 : Int), (2 : Int), (111 : Int)), ((110 : Int), (3 : Int), (112 : Int)), ((112 : Int), (0 : Int), (113 : Int)), ((112 : Int), (1 : Int), (114 : Int)), ((113 : Int), (0 : Int), (115 : Int)), ((113 : Int), (1 : Int), (119 : Int)), ((113 : Int), (2 : Int), (123 : Int)), ((115 : Int), (1 : Int), (116 : Int)), ((115 : Int), (2 : Int), (117 : Int)), ((115 : Int), (3 : Int), (118 : Int)), ((119 : Int), (1 : Int), (120 : Int)), ((119 : Int), (2 : Int), (121 : Int)), ((119 : Int), (3 : Int), (122 : Int)), ((123 : Int), (1 : Int), (124 : Int)), ((123 : Int), (2 : Int), (125 : Int)), ((123 : Int), (3 : Int), (126 : Int))].all fun p => !decide (p.1 = 75)) = true by decide +kernel) p e
        simpa using this
      rw [zun g]
      exact a4 p e
  · rw [zun (by omega), a3 _ _ (by omega) (.inr (by decide)), zcz]
theorem k91_t3 {M : zM} {n m : Nat} (h : zQp 126 M) (hn : 17 ≤ n) (hm : 1248 ≤ m) : ∃ M', zex 91 58 [] [(2, 1), (0, 3)] M (zKs.take 126, n, m) = zex 91 58 [] [(2, 1), (0, 4)] M' (zKs.take 143, n - 17, m - 1248) ∧ zQp 143 M' ∧ M' 127 0 = 0 ∧ ∀ a y, a ≤ 126 → a ≠ 75 → M' a y = M a y := by
  have t1 : zKs.take 126 ++ [(14, 0)] = zKs.take 127 := by decide +kernel
  have l1 : (zKs.take 126).length = 126 := by decide +kernel
  have l2 : ((zKs.take 127).length : Int) = 127 := by decide +kernel
  have kr := zkT (j := 126) (r := 1) (kd := (17, 0)) (by decide +kernel)
  have kp := zkT (j := 127) (r := 127) (kd := (14, 0)) (by decide +kernel)
  have t2 : zKs.take 127 ++ [(1, 64), (6, 0), (3, 3), (0, 801), (7, 0), (0, 40), (0, 40), (0, 40), (7, 0), (0, 40), (0, 40), (0, 40), (7, 0), (0, 40), (0, 40), (0, 40)] = zKs.take 143 := by decide +kernel
  have kr2 := zkT (j := 143) (r := 75) (kd := (4, 6)) (by decide +kernel)
  have kr3 := zkT (j := 143) (r := 127) (kd := (14, 0)) (by decide +kernel)
  have v8 := h (1, 8, 75) (by decide +kernel) (by decide) (by decide)
  dsimp only at v8
  obtain ⟨M1, a1, a2, a3⟩ := k74 (M := zclr M 127) (n := n - 1) (m := m - 4) l2 (kp _ _) (by omega) (by omega)
  rw [t2] at a1
  unfold zCn at a2
  simp only [Int.reduceAdd] at a2
  have a4 : ∀ p ∈ [((127 : Int), (2 : Int), (128 : Int)), ((127 : Int), (3 : Int), (129 : Int)), ((129 : Int), (0 : Int), (130 : Int)), ((129 : Int), (1 : Int), (131 : Int)), ((130 : Int), (0 : Int), (132 : Int)), ((130 : Int), (1 : Int), (136 : Int)), ((130 : Int), (2 : Int), (140 : Int)), ((132 : Int), (1 : Int), (133 : Int)), ((132 : Int), (2 : Int), (134 : Int)), ((132 : Int), (3 : Int), (135 : Int)), ((136 : Int), (1 : Int), (137 : Int)), ((136 : Int), (2 : Int), (138 : Int)), ((136 : Int), (3 : Int), (139 : Int)), ((140 : Int), (1 : Int), (141 : Int)), ((140 : Int), (2 : Int), (142 : Int)), ((140 : Int), (3 : Int), (143 : Int))], M1 p.1 p.2.1 = p.2.2 := by
    simp only [List.forall_mem_cons, List.not_mem_nil, false_implies, implies_true, and_true]
    obtain ⟨y1, y2, ⟨x1, x2⟩, ⟨x3, x4, x5⟩, ⟨x6, x7, x8⟩, ⟨x9, x10, x11⟩, x12, x13, x14⟩ := a2
    exact ⟨y1, y2, x1, x2, x3, x4, x5, x6, x7, x8, x9, x10, x11, x12, x13, x14⟩
  have f0 : ∀ a y, a ≤ 126 → (a ≠ 75 ∨ y ≠ 3) → zu M1 75 3 127 a y = M a y := fun a y ha hy => by
    by_cases e : a = 75
    · rw [zun2 (by omega), a3 _ _ (by omega) (.inl (by omega)), zcn (by omega)]
    · rw [zun e, a3 _ _ (by omega) (.inl (by omega)), zcn (by omega)]
  refine ⟨zu M1 75 3 127, ?_, h.go (new := ((75 : Int), (3 : Int), (127 : Int)) :: [((127 : Int), (2 : Int), (128 : Int)), ((127 : Int), (3 : Int), (129 : Int)), ((129 : Int), (0 : Int), (130 : Int)), ((129 : Int), (1 : Int), (131 : Int)), ((130 : Int), (0 : Int), (132 : Int)), ((130 : Int), (1 : Int), (136 : Int)), ((130 : Int), (2 : Int), (140 : Int)), ((132 : Int), (1 : Int), (133 : Int)), ((132 : Int), (2 : Int), (134 : Int)), ((132 : Int), (3 : Int), (135 : Int)), ((136 : Int), (1 : Int), (137 : Int)), ((136 : Int), (2 : Int), (138 : Int)), ((136 : Int), (3 : Int), (139 : Int)), ((140 : Int), (1 : Int), (141 : Int)), ((140 : Int), (2 : Int), (142 : Int)), ((140 : Int), (3 : Int), (143 : Int))]) (b := 75) (f := 3) f0 (fun p hp => ?_) (by decide +kernel), ?_, fun a y ha hy => f0 a y (by omega) (.inl hy)⟩
  · rw [q91_58]
    simp (disch := omega) only [v8, t1, l1, kr, kr2, kr3, kp, a1, Int.natCast_add, Nat.sub_sub, Nat.reduceAdd, zg_pos, zI, ↓reduceIte, Int.reduceEq, Int.reduceLE, Int.reduceLT, Int.reduceAdd, Int.reduceSub, Int.reduceMul, Int.reduceNeg, zg_T, zbI_ok, zbL_ok, zbN_ok, zite1, zite2, zite3, zem, Int.cast_ofNat_Int, and_self, and_true, true_and, or_true, true_or, or_self, ite_not, if_true, if_false, not_true_eq_false, not_false_eq_true]
  · rcases List.mem_cons.mp hp with e | e
    · rw [e]; exact zus
    · have g : p.1 ≠ 75 := by
        have := List.all_eq_true.mp (show ([((127 : Int), (2 : Int), (128 : Int)), ((127 : Int), (3 : Int), (129 : Int)), ((129 : Int), (0 : Int), (130 : Int)), ((129 : Int), (1 : Int), (131 : Int)), ((130 : Int), (0 : Int), (132 : Int)), ((130 : Int), (1 : Int), (136 : Int)), ((130 : Int), (2 : Int), (140 : Int)), ((132 : Int), (1 : Int), (133 : Int)), ((132 : Int), (2 : Int), (134 : Int)), ((132 : Int), (3 : Int), (135 : Int)), ((136 : Int), (1 : Int), (137 : Int)), ((136 : Int), (2 : Int), (138 : Int)), ((136 : Int), (3 : Int), (139 : Int)), ((140 : Int), (1 : Int), (141 : Int)), ((140 : Int), (2 : Int), (142 : Int)), ((140 : Int), (3 : Int), (143 : Int))].all fun p => !decide (p.1 = 75)) = true by decide +kernel) p e
        simpa using this
      rw [zun g]
      exact a4 p e
  · rw [zun (by omega), a3 _ _ (by omega) (.inr (by decide)), zcz]
theorem k91_t4 {M : zM} {n m : Nat} (h : zQp 143 M) (hn : 17 ≤ n) (hm : 1248 ≤ m) : ∃ M', zex 91 58 [] [(2, 1), (0, 4)] M (zKs.take 143, n, m) = zex 91 58 [] [(2, 1), (0, 5)] M' (zKs.take 160, n - 17, m - 1248) ∧ zQp 160 M' ∧ M' 144 0 = 0 ∧ ∀ a y, a ≤ 143 → a ≠ 75 → M' a y = M a y := by
  have t1 : zKs.take 143 ++ [(14, 0)] = zKs.take 144 := by decide +kernel
  have l1 : (zKs.take 143).length = 143 := by decide +kernel
  have l2 : ((zKs.take 144).length : Int) = 144 := by decide +kernel
  have kr := zkT (j := 143) (r := 1) (kd := (17, 0)) (by decide +kernel)
  have kp := zkT (j := 144) (r := 144) (kd := (14, 0)) (by decide +kernel)
  have t2 : zKs.take 144 ++ [(1, 64), (6, 0), (3, 3), (0, 801), (7, 0), (0, 40), (0, 40), (0, 40), (7, 0), (0, 40), (0, 40), (0, 40), (7, 0), (0, 40), (0, 40), (0, 40)] = zKs.take 160 := by decide +kernel
  have kr2 := zkT (j := 160) (r := 75) (kd := (4, 6)) (by decide +kernel)
  have kr3 := zkT (j := 160) (r := 144) (kd := (14, 0)) (by decide +kernel)
  have v8 := h (1, 8, 75) (by decide +kernel) (by decide) (by decide)
  dsimp only at v8
  obtain ⟨M1, a1, a2, a3⟩ := k74 (M := zclr M 144) (n := n - 1) (m := m - 4) l2 (kp _ _) (by omega) (by omega)
  rw [t2] at a1
  unfold zCn at a2
  simp only [Int.reduceAdd] at a2
  have a4 : ∀ p ∈ [((144 : Int), (2 : Int), (145 : Int)), ((144 : Int), (3 : Int), (146 : Int)), ((146 : Int), (0 : Int), (147 : Int)), ((146 : Int), (1 : Int), (148 : Int)), ((147 : Int), (0 : Int), (149 : Int)), ((147 : Int), (1 : Int), (153 : Int)), ((147 : Int), (2 : Int), (157 : Int)), ((149 : Int), (1 : Int), (150 : Int)), ((149 : Int), (2 : Int), (151 : Int)), ((149 : Int), (3 : Int), (152 : Int)), ((153 : Int), (1 : Int), (154 : Int)), ((153 : Int), (2 : Int), (155 : Int)), ((153 : Int), (3 : Int), (156 : Int)), ((157 : Int), (1 : Int), (158 : Int)), ((157 : Int), (2 : Int), (159 : Int)), ((157 : Int), (3 : Int), (160 : Int))], M1 p.1 p.2.1 = p.2.2 := by
    simp only [List.forall_mem_cons, List.not_mem_nil, false_implies, implies_true, and_true]
    obtain ⟨y1, y2, ⟨x1, x2⟩, ⟨x3, x4, x5⟩, ⟨x6, x7, x8⟩, ⟨x9, x10, x11⟩, x12, x13, x14⟩ := a2
    exact ⟨y1, y2, x1, x2, x3, x4, x5, x6, x7, x8, x9, x10, x11, x12, x13, x14⟩
  have f0 : ∀ a y, a ≤ 143 → (a ≠ 75 ∨ y ≠ 4) → zu M1 75 4 144 a y = M a y := fun a y ha hy => by
    by_cases e : a = 75
    · rw [zun2 (by omega), a3 _ _ (by omega) (.inl (by omega)), zcn (by omega)]
    · rw [zun e, a3 _ _ (by omega) (.inl (by omega)), zcn (by omega)]
  refine ⟨zu M1 75 4 144, ?_, h.go (new := ((75 : Int), (4 : Int), (144 : Int)) :: [((144 : Int), (2 : Int), (145 : Int)), ((144 : Int), (3 : Int), (146 : Int)), ((146 : Int), (0 : Int), (147 : Int)), ((146 : Int), (1 : Int), (148 : Int)), ((147 : Int), (0 : Int), (149 : Int)), ((147 : Int), (1 : Int), (153 : Int)), ((147 : Int), (2 : Int), (157 : Int)), ((149 : Int), (1 : Int), (150 : Int)), ((149 : Int), (2 : Int), (151 : Int)), ((149 : Int), (3 : Int), (152 : Int)), ((153 : Int), (1 : Int), (154 : Int)), ((153 : Int), (2 : Int), (155 : Int)), ((153 : Int), (3 : Int), (156 : Int)), ((157 : Int), (1 : Int), (158 : Int)), ((157 : Int), (2 : Int), (159 : Int)), ((157 : Int), (3 : Int), (160 : Int))]) (b := 75) (f := 4) f0 (fun p hp => ?_) (by decide +kernel), ?_, fun a y ha hy => f0 a y (by omega) (.inl hy)⟩
  · rw [q91_58]
    simp (disch := omega) only [v8, t1, l1, kr, kr2, kr3, kp, a1, Int.natCast_add, Nat.sub_sub, Nat.reduceAdd, zg_pos, zI, ↓reduceIte, Int.reduceEq, Int.reduceLE, Int.reduceLT, Int.reduceAdd, Int.reduceSub, Int.reduceMul, Int.reduceNeg, zg_T, zbI_ok, zbL_ok, zbN_ok, zite1, zite2, zite3, zem, Int.cast_ofNat_Int, and_self, and_true, true_and, or_true, true_or, or_self, ite_not, if_true, if_false, not_true_eq_false, not_false_eq_true]
  · rcases List.mem_cons.mp hp with e | e
    · rw [e]; exact zus
    · have g : p.1 ≠ 75 := by
        have := List.all_eq_true.mp (show ([((144 : Int), (2 : Int), (145 : Int)), ((144 : Int), (3 : Int), (146 : Int)), ((146 : Int), (0 : Int), (147 : Int)), ((146 : Int), (1 : Int), (148 : Int)), ((147 : Int), (0 : Int), (149 : Int)), ((147 : Int), (1 : Int), (153 : Int)), ((147 : Int), (2 : Int), (157 : Int)), ((149 : Int), (1 : Int), (150 : Int)), ((149 : Int), (2 : Int), (151 : Int)), ((149 : Int), (3 : Int), (152 : Int)), ((153 : Int), (1 : Int), (154 : Int)), ((153 : Int), (2 : Int), (155 : Int)), ((153 : Int), (3 : Int), (156 : Int)), ((157 : Int), (1 : Int), (158 : Int)), ((157 : Int), (2 : Int), (159 : Int)), ((157 : Int), (3 : Int), (160 : Int))].all fun p => !decide (p.1 = 75)) = true by decide +kernel) p e
        simpa using this
      rw [zun g]
      exact a4 p e
  · rw [zun (by omega), a3 _ _ (by omega) (.inr (by decide)), zcz]
theorem k91_t5 {M : zM} {n m : Nat} (h : zQp 160 M) (hn : 17 ≤ n) (hm : 1248 ≤ m) : ∃ M', zex 91 58 [] [(2, 1), (0, 5)] M (zKs.take 160, n, m) = zex 91 58 [] [(2, 1), (0, 6)] M' (zKs.take 177, n - 17, m - 1248) ∧ zQp 177 M' ∧ M' 161 0 = 0 ∧ ∀ a y, a ≤ 160 → a ≠ 75 → M' a y = M a y := by
  have t1 : zKs.take 160 ++ [(14, 0)] = zKs.take 161 := by decide +kernel
  have l1 : (zKs.take 160).length = 160 := by decide +kernel
  have l2 : ((zKs.take 161).length : Int) = 161 := by decide +kernel
  have kr := zkT (j := 160) (r := 1) (kd := (17, 0)) (by decide +kernel)
  have kp := zkT (j := 161) (r := 161) (kd := (14, 0)) (by decide +kernel)
  have t2 : zKs.take 161 ++ [(1, 64), (6, 0), (3, 3), (0, 801), (7, 0), (0, 40), (0, 40), (0, 40), (7, 0), (0, 40), (0, 40), (0, 40), (7, 0), (0, 40), (0, 40), (0, 40)] = zKs.take 177 := by decide +kernel
  have kr2 := zkT (j := 177) (r := 75) (kd := (4, 6)) (by decide +kernel)
  have kr3 := zkT (j := 177) (r := 161) (kd := (14, 0)) (by decide +kernel)
  have v8 := h (1, 8, 75) (by decide +kernel) (by decide) (by decide)
  dsimp only at v8
  obtain ⟨M1, a1, a2, a3⟩ := k74 (M := zclr M 161) (n := n - 1) (m := m - 4) l2 (kp _ _) (by omega) (by omega)
  rw [t2] at a1
  unfold zCn at a2
  simp only [Int.reduceAdd] at a2
  have a4 : ∀ p ∈ [((161 : Int), (2 : Int), (162 : Int)), ((161 : Int), (3 : Int), (163 : Int)), ((163 : Int), (0 : Int), (164 : Int)), ((163 : Int), (1 : Int), (165 : Int)), ((164 : Int), (0 : Int), (166 : Int)), ((164 : Int), (1 : Int), (170 : Int)), ((164 : Int), (2 : Int), (174 : Int)), ((166 : Int), (1 : Int), (167 : Int)), ((166 : Int), (2 : Int), (168 : Int)), ((166 : Int), (3 : Int), (169 : Int)), ((170 : Int), (1 : Int), (171 : Int)), ((170 : Int), (2 : Int), (172 : Int)), ((170 : Int), (3 : Int), (173 : Int)), ((174 : Int), (1 : Int), (175 : Int)), ((174 : Int), (2 : Int), (176 : Int)), ((174 : Int), (3 : Int), (177 : Int))], M1 p.1 p.2.1 = p.2.2 := by
    simp only [List.forall_mem_cons, List.not_mem_nil, false_implies, implies_true, and_true]
    obtain ⟨y1, y2, ⟨x1, x2⟩, ⟨x3, x4, x5⟩, ⟨x6, x7, x8⟩, ⟨x9, x10, x11⟩, x12, x13, x14⟩ := a2
    exact ⟨y1, y2, x1, x2, x3, x4, x5, x6, x7, x8, x9, x10, x11, x12, x13, x14⟩
  have f0 : ∀ a y, a ≤ 160 → (a ≠ 75 ∨ y ≠ 5) → zu M1 75 5 161 a y = M a y := fun a y ha hy => by
    by_cases e : a = 75
    · rw [zun2 (by omega), a3 _ _ (by omega) (.inl (by omega)), zcn (by omega)]
    · rw [zun e, a3 _ _ (by omega) (.inl (by omega)), zcn (by omega)]
  refine ⟨zu M1 75 5 161, ?_, h.go (new := ((75 : Int), (5 : Int), (161 : Int)) :: [((161 : Int), (2 : Int), (162 : Int)), ((161 : Int), (3 : Int), (163 : Int)), ((163 : Int), (0 : Int), (164 : Int)), ((163 : Int), (1 : Int), (165 : Int)), ((164 : Int), (0 : Int), (166 : Int)), ((164 : Int), (1 : Int), (170 : Int)), ((164 : Int), (2 : Int), (174 : Int)), ((166 : Int), (1 : Int), (167 : Int)), ((166 : Int), (2 : Int), (168 : Int)), ((166 : Int), (3 : Int), (169 : Int)), ((170 : Int), (1 : Int), (171 : Int)), ((170 : Int), (2 : Int), (172 : Int)), ((170 : Int), (3 : Int), (173 : Int)), ((174 : Int), (1 : Int), (175 : Int)), ((174 : Int), (2 : Int), (176 : Int)), ((174 : Int), (3 : Int), (177 : Int))]) (b := 75) (f := 5) f0 (fun p hp => ?_) (by decide +kernel), ?_, fun a y ha hy => f0 a y (by omega) (.inl hy)⟩
  · rw [q91_58]
    simp (disch := omega) only [v8, t1, l1, kr, kr2, kr3, kp, a1, Int.natCast_add, Nat.sub_sub, Nat.reduceAdd, zg_pos, zI, ↓reduceIte, Int.reduceEq, Int.reduceLE, Int.reduceLT, Int.reduceAdd, Int.reduceSub, Int.reduceMul, Int.reduceNeg, zg_T, zbI_ok, zbL_ok, zbN_ok, zite1, zite2, zite3, zem, Int.cast_ofNat_Int, and_self, and_true, true_and, or_true, true_or, or_self, ite_not, if_true, if_false, not_true_eq_false, not_false_eq_true]
  · rcases List.mem_cons.mp hp with e | e
    · rw [e]; exact zus
    · have g : p.1 ≠ 75 := by
        have := List.all_eq_true.mp (show ([((161 : Int), (2 : Int), (162 : Int)), ((161 : Int), (3 : Int), (163 : Int)), ((163 : Int), (0 : Int), (164 : Int)), ((163 : Int), (1 : Int), (165 : Int)), ((164 : Int), (0 : Int), (166 : Int)), ((164 : Int), (1 : Int), (170 : Int)), ((164 : Int), (2 : Int), (174 : Int)), ((166 : Int), (1 : Int), (167 : Int)), ((166 : Int), (2 : Int), (168 : Int)), ((166 : Int), (3 : Int), (169 : Int)), ((170 : Int), (1 : Int), (171 : Int)), ((170 : Int), (2 : Int), (172 : Int)), ((170 : Int), (3 : Int), (173 : Int)), ((174 : Int), (1 : Int), (175 : Int)), ((174 : Int), (2 : Int), (176 : Int)), ((174 : Int), (3 : Int), (177 : Int))].all fun p => !decide (p.1 = 75)) = true by decide +kernel) p e
        simpa using this
      rw [zun g]
      exact a4 p e
  · rw [zun (by omega), a3 _ _ (by omega) (.inr (by decide)), zcz]
