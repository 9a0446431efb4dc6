/-! CONSTRUCTORS: the class's -/
/-- the pointers so far -/
def zQp (j : Int) (M : zM) : Prop := ∀ p ∈ zPCl, p.1 ≤ j → p.2.2 ≤ j → M p.1 p.2.1 = p.2.2
theorem zQp.go {j j' b f : Int} {new : List (Int × Int × Int)} {M M' : zM} (h : zQp j M) (hf : ∀ a y, a ≤ j → (a ≠ b ∨ y ≠ f) → M' a y = M a y) (hn : ∀ p ∈ new, M' p.1 p.2.1 = p.2.2) (hd : (zPCl.all fun p => !(decide (p.1 ≤ j') && decide (p.2.2 ≤ j')) || decide (p ∈ new) || (decide (p.1 ≤ j) && decide (p.2.2 ≤ j) && (!decide (p.1 = b) || !decide (p.2.1 = f)))) = true) : zQp j' M' := fun p hp h1 h2 => by
  have := List.all_eq_true.mp hd p hp
  simp only [Bool.or_eq_true, Bool.and_eq_true, Bool.not_eq_true', decide_eq_true_eq, decide_eq_false_iff_not, Bool.and_eq_false_iff] at this
  rcases this with (h3 | h3) | ⟨⟨h3, h4⟩, h5⟩
  · omega
  · exact hn p h3
  · rw [hf _ _ h3 h5]
    exact h p hp h3 h4
theorem zkT {j : Nat} {r : Int} {kd : Nat × Nat} (h : (if r ≤ 0 then (99, 0) else (zKs.take j).getD (r - 1).toNat (99, 0)) = kd) (n m : Nat) : zkd (zKs.take j, n, m) r = kd := h
theorem k91_7 {M : zM} {n m : Nat} {d : zV} (h : zQp 16 M) (hn : 1 ≤ n) (hm : 5 ≤ m) : ∃ M', zex 91 7 [] [(2, 1), d] M (zKs.take 16, n, m) = zex 91 12 [] [(2, 1), d] M' (zKs.take 17, n - 1, m - 5) ∧ zQp 17 M' ∧ ∀ a y, a < 1 → M' a y = M a y := by
  have t1 : zKs.take 16 ++ [(11, 0)] = zKs.take 17 := by decide +kernel
  have l1 : (zKs.take 16).length = 16 := by decide +kernel
  have l2 : ((zKs.take 17).length : Int) = 17 := by decide +kernel
  have kr := zkT (j := 17) (r := 1) (kd := (17, 0)) (by decide +kernel)
  have kp := zkT (j := 17) (r := 17) (kd := (11, 0)) (by decide +kernel)
  have f0 : ∀ a y, a ≤ 16 → (a ≠ 1 ∨ y ≠ 1) → zu (zclr M 17) 1 1 17 a y = M a y := fun a y ha hy => by
    by_cases e : a = 1
    · rw [zun2 (by omega), zcn (by omega)]
    · rw [zun e, zcn (by omega)]
  refine ⟨zu (zclr M 17) 1 1 17, ?_, h.go (new := [((1 : Int), (1 : Int), (17 : Int))]) (b := 1) (f := 1) f0 (fun p hp => by
    have e := List.mem_singleton.mp hp
    rw [e]; exact zus) (by decide +kernel), fun a y ha => f0 a y (by omega) (by omega)⟩
  rw [q91_7]
  simp (disch := omega) only [t1, l1, kr, kp, q50_0, Int.natCast_add, Nat.sub_sub, Nat.reduceAdd, zg_pos, ↓reduceIte, Int.reduceEq, Int.reduceLE, Int.reduceLT, Int.reduceAdd, Int.reduceSub, Int.reduceMul, Int.reduceNeg, zg_T, zbI_ok, zbL_ok, zbN_ok, zite1, zite2, zite3, zem, Int.cast_ofNat_Int, and_self, and_true, true_and, or_true, true_or, or_self, ite_not, if_true, if_false, not_true_eq_false, not_false_eq_true]
theorem k91_12 {M : zM} {n m : Nat} {d : zV} (h : zQp 17 M) (hn : 7 ≤ n) (hm : 7180 ≤ m) : ∃ M', zex 91 12 [] [(2, 1), d] M (zKs.take 17, n, m) = zex 91 17 [] [(2, 1), d] M' (zKs.take 24, n - 7, m - 7180) ∧ zQp 24 M' ∧ ∀ a y, a < 1 → M' a y = M a y := by
  have t1 : zKs.take 17 ++ [(9, 0)] = zKs.take 18 := by decide +kernel
  have l1 : (zKs.take 17).length = 17 := by decide +kernel
  have l2 : ((zKs.take 18).length : Int) = 18 := by decide +kernel
  have kr := zkT (j := 18) (r := 1) (kd := (17, 0)) (by decide +kernel)
  have kp := zkT (j := 18) (r := 18) (kd := (9, 0)) (by decide +kernel)
  have t2 : zKs.take 18 ++ [(2, 1024), (0, 2048), (10, 0), (0, 2048), (10, 0), (0, 2048)] = zKs.take 24 := by decide +kernel
  have kr2 := zkT (j := 24) (r := 1) (kd := (17, 0)) (by decide +kernel)
  obtain ⟨M1, a1, a2, a3⟩ := k33 (M := zclr M 18) (n := n - 1) (m := m - 6) l2 (kp _ _) (by omega) (by omega)
  rw [t2] at a1
  have f0 : ∀ a y, a ≤ 17 → (a ≠ 1 ∨ y ≠ 2) → zu M1 1 2 18 a y = M a y := fun a y ha hy => by
    by_cases e : a = 1
    · rw [zun2 (by omega), a3 _ _ (by omega) (by omega), zcn (by omega)]
    · rw [zun e, a3 _ _ (by omega) (by omega), zcn (by omega)]
  refine ⟨zu M1 1 2 18, ?_, h.go (new := ((1 : Int), (2 : Int), (18 : Int)) :: [((18 : Int), (0 : Int), (19 : Int)), ((18 : Int), (2 : Int), (20 : Int)), ((18 : Int), (3 : Int), (21 : Int)), ((21 : Int), (0 : Int), (22 : Int)), ((18 : Int), (4 : Int), (23 : Int)), ((23 : Int), (0 : Int), (24 : Int))]) (b := 1) (f := 2) f0 (fun p hp => ?_) (by decide +kernel), fun a y ha => f0 a y (by omega) (by omega)⟩
  · rw [q91_12]
    simp (disch := omega) only [t1, l1, kr, kr2, kp, a1,  zcn, Int.natCast_add, Nat.sub_sub, Nat.reduceAdd, zg_pos, ↓reduceIte, Int.reduceEq, Int.reduceLE, Int.reduceLT, Int.reduceAdd, Int.reduceSub, Int.reduceMul, Int.reduceNeg, zg_T, zbI_ok, zbL_ok, zbN_ok, zite1, zite2, zite3, zem, Int.cast_ofNat_Int, and_self, and_true, true_and, or_true, true_or, or_self, ite_not, if_true, if_false, not_true_eq_false, not_false_eq_true]
  · rcases List.mem_cons.mp hp with e | e
    · rw [e]; exact zus
    · have g : p.1 ≠ 1 := by
        have := List.all_eq_true.mp (show ([((18 : Int), (0 : Int), (19 : Int)), ((18 : Int), (2 : Int), (20 : Int)), ((18 : Int), (3 : Int), (21 : Int)), ((21 : Int), (0 : Int), (22 : Int)), ((18 : Int), (4 : Int), (23 : Int)), ((23 : Int), (0 : Int), (24 : Int))].all fun p => !decide (p.1 = 1)) = true by decide +kernel) p e
        simpa using this
      rw [zun g]
      exact a2 p e
theorem k91_17 {M : zM} {n m : Nat} {d : zV} (h : zQp 24 M) (hn : 2 ≤ n) (hm : 34 ≤ m) : ∃ M', zex 91 17 [] [(2, 1), d] M (zKs.take 24, n, m) = zex 91 22 [] [(2, 1), d] M' (zKs.take 26, n - 2, m - 34) ∧ zQp 26 M' ∧ ∀ a y, a < 1 → M' a y = M a y := by
  have t1 : zKs.take 24 ++ [(15, 0)] = zKs.take 25 := by decide +kernel
  have l1 : (zKs.take 24).length = 24 := by decide +kernel
  have l2 : ((zKs.take 25).length : Int) = 25 := by decide +kernel
  have kr := zkT (j := 25) (r := 1) (kd := (17, 0)) (by decide +kernel)
  have kp := zkT (j := 25) (r := 25) (kd := (15, 0)) (by decide +kernel)
  have t2 : zKs.take 25 ++ [(0, 30)] = zKs.take 26 := by decide +kernel
  have kr2 := zkT (j := 26) (r := 1) (kd := (17, 0)) (by decide +kernel)
  obtain ⟨M1, a1, a2, a3⟩ := k79 (M := zclr M 25) (n := n - 1) (m := m - 4) l2 (kp _ _) (by omega) (by omega)
  rw [t2] at a1
  have f0 : ∀ a y, a ≤ 24 → (a ≠ 1 ∨ y ≠ 3) → zu M1 1 3 25 a y = M a y := fun a y ha hy => by
    by_cases e : a = 1
    · rw [zun2 (by omega), a3 _ _ (by omega) (by omega), zcn (by omega)]
    · rw [zun e, a3 _ _ (by omega) (by omega), zcn (by omega)]
  refine ⟨zu M1 1 3 25, ?_, h.go (new := ((1 : Int), (3 : Int), (25 : Int)) :: [((25 : Int), (0 : Int), (26 : Int))]) (b := 1) (f := 3) f0 (fun p hp => ?_) (by decide +kernel), fun a y ha => f0 a y (by omega) (by omega)⟩
  · rw [q91_17]
    simp (disch := omega) only [t1, l1, kr, kr2, kp, a1,  zcn, Int.natCast_add, Nat.sub_sub, Nat.reduceAdd, zg_pos, ↓reduceIte, Int.reduceEq, Int.reduceLE, Int.reduceLT, Int.reduceAdd, Int.reduceSub, Int.reduceMul, Int.reduceNeg, zg_T, zbI_ok, zbL_ok, zbN_ok, zite1, zite2, zite3, zem, Int.cast_ofNat_Int, and_self, and_true, true_and, or_true, true_or, or_self, ite_not, if_true, if_false, not_true_eq_false, not_false_eq_true]
  · rcases List.mem_cons.mp hp with e | e
    · rw [e]; exact zus
    · have g : p.1 ≠ 1 := by
        have := List.all_eq_true.mp (show ([((25 : Int), (0 : Int), (26 : Int))].all fun p => !decide (p.1 = 1)) = true by decide +kernel) p e
        simpa using this
      rw [zun g]
      exact a2 p e
theorem k91_22 {M : zM} {n m : Nat} {d : zV} (h : zQp 26 M) (hn : 9 ≤ n) (hm : 146 ≤ m) : ∃ M', zex 91 22 [] [(2, 1), d] M (zKs.take 26, n, m) = zex 91 31 [] [(2, 1), d] M' (zKs.take 35, n - 9, m - 146) ∧ zQp 35 M' ∧ ∀ a y, a < 1 → M' a y = M a y := by
  have t1 : zKs.take 26 ++ [(12, 0)] = zKs.take 27 := by decide +kernel
  have l1 : (zKs.take 26).length = 26 := by decide +kernel
  have l2 : ((zKs.take 27).length : Int) = 27 := by decide +kernel
  have kr := zkT (j := 27) (r := 1) (kd := (17, 0)) (by decide +kernel)
  have kp := zkT (j := 27) (r := 27) (kd := (12, 0)) (by decide +kernel)
  have t2 : zKs.take 27 ++ [(11, 0), (5, 3), (0, 40), (0, 40), (0, 40), (0, 3), (0, 3), (2, 3)] = zKs.take 35 := by decide +kernel
  have kr2 := zkT (j := 35) (r := 1) (kd := (17, 0)) (by decide +kernel)
  obtain ⟨M1, a1, a2, a3⟩ := k59 (M := zclr M 27) (n := n - 1) (m := m - 9) l2 (kp _ _) (by omega) (by omega)
  rw [t2] at a1
  have f0 : ∀ a y, a ≤ 26 → (a ≠ 1 ∨ y ≠ 4) → zu M1 1 4 27 a y = M a y := fun a y ha hy => by
    by_cases e : a = 1
    · rw [zun2 (by omega), a3 _ _ (by omega) (by omega), zcn (by omega)]
    · rw [zun e, a3 _ _ (by omega) (by omega), zcn (by omega)]
  refine ⟨zu M1 1 4 27, ?_, h.go (new := ((1 : Int), (4 : Int), (27 : Int)) :: [((27 : Int), (2 : Int), (28 : Int)), ((27 : Int), (3 : Int), (29 : Int)), ((29 : Int), (0 : Int), (30 : Int)), ((29 : Int), (1 : Int), (31 : Int)), ((29 : Int), (2 : Int), (32 : Int)), ((27 : Int), (4 : Int), (33 : Int)), ((27 : Int), (5 : Int), (34 : Int)), ((27 : Int), (7 : Int), (35 : Int)), ((27 : Int), (0 : Int), (2 : Int)), ((27 : Int), (1 : Int), (17 : Int))]) (b := 1) (f := 4) f0 (fun p hp => ?_) (by decide +kernel), fun a y ha => f0 a y (by omega) (by omega)⟩
  · rw [q91_22]
    have v0 := h (1, 0, 2) (by decide +kernel) (by decide) (by decide)
    dsimp only at v0
    have v1 := h (1, 1, 17) (by decide +kernel) (by decide) (by decide)
    dsimp only at v1
    simp (disch := omega) only [t1, l1, kr, kr2, kp, a1, v0, v1,  zcn, Int.natCast_add, Nat.sub_sub, Nat.reduceAdd, zg_pos, ↓reduceIte, Int.reduceEq, Int.reduceLE, Int.reduceLT, Int.reduceAdd, Int.reduceSub, Int.reduceMul, Int.reduceNeg, zg_T, zbI_ok, zbL_ok, zbN_ok, zite1, zite2, zite3, zem, Int.cast_ofNat_Int, and_self, and_true, true_and, or_true, true_or, or_self, ite_not, if_true, if_false, not_true_eq_false, not_false_eq_true]
  · rcases List.mem_cons.mp hp with e | e
    · rw [e]; exact zus
    · have g : p.1 ≠ 1 := by
        have := List.all_eq_true.mp (show ([((27 : Int), (2 : Int), (28 : Int)), ((27 : Int), (3 : Int), (29 : Int)), ((29 : Int), (0 : Int), (30 : Int)), ((29 : Int), (1 : Int), (31 : Int)), ((29 : Int), (2 : Int), (32 : Int)), ((27 : Int), (4 : Int), (33 : Int)), ((27 : Int), (5 : Int), (34 : Int)), ((27 : Int), (7 : Int), (35 : Int)), ((27 : Int), (0 : Int), (2 : Int)), ((27 : Int), (1 : Int), (17 : Int))].all fun p => !decide (p.1 = 1)) = true by decide +kernel) p e
        simpa using this
      rw [zun g]
      exact a2 p e
theorem k91_31 {M : zM} {n m : Nat} {d : zV} (h : zQp 35 M) (hn : 11 ≤ n) (hm : 320 ≤ m) : ∃ M', zex 91 31 [] [(2, 1), d] M (zKs.take 35, n, m) = zex 91 36 [] [(2, 1), d] M' (zKs.take 46, n - 11, m - 320) ∧ zQp 46 M' ∧ ∀ a y, a < 1 → M' a y = M a y := by
  have t1 : zKs.take 35 ++ [(13, 0)] = zKs.take 36 := by decide +kernel
  have l1 : (zKs.take 35).length = 35 := by decide +kernel
  have l2 : ((zKs.take 36).length : Int) = 36 := by decide +kernel
  have kr := zkT (j := 36) (r := 1) (kd := (17, 0)) (by decide +kernel)
  have kp := zkT (j := 36) (r := 36) (kd := (13, 0)) (by decide +kernel)
  have t2 : zKs.take 36 ++ [(11, 0), (5, 4), (0, 60), (0, 60), (0, 60), (0, 60), (5, 3), (0, 20), (0, 20), (0, 20)] = zKs.take 46 := by decide +kernel
  have kr2 := zkT (j := 46) (r := 1) (kd := (17, 0)) (by decide +kernel)
  obtain ⟨M1, a1, a2, a3⟩ := k69 (M := zclr M 36) (n := n - 1) (m := m - 8) l2 (kp _ _) (by omega) (by omega)
  rw [t2] at a1
  have f0 : ∀ a y, a ≤ 35 → (a ≠ 1 ∨ y ≠ 5) → zu M1 1 5 36 a y = M a y := fun a y ha hy => by
    by_cases e : a = 1
    · rw [zun2 (by omega), a3 _ _ (by omega) (by omega), zcn (by omega)]
    · rw [zun e, a3 _ _ (by omega) (by omega), zcn (by omega)]
  refine ⟨zu M1 1 5 36, ?_, h.go (new := ((1 : Int), (5 : Int), (36 : Int)) :: [((36 : Int), (1 : Int), (37 : Int)), ((36 : Int), (3 : Int), (38 : Int)), ((38 : Int), (0 : Int), (39 : Int)), ((38 : Int), (1 : Int), (40 : Int)), ((38 : Int), (2 : Int), (41 : Int)), ((38 : Int), (3 : Int), (42 : Int)), ((36 : Int), (5 : Int), (43 : Int)), ((43 : Int), (0 : Int), (44 : Int)), ((43 : Int), (1 : Int), (45 : Int)), ((43 : Int), (2 : Int), (46 : Int))]) (b := 1) (f := 5) f0 (fun p hp => ?_) (by decide +kernel), fun a y ha => f0 a y (by omega) (by omega)⟩
  · rw [q91_31]
    simp (disch := omega) only [t1, l1, kr, kr2, kp, a1,  zcn, Int.natCast_add, Nat.sub_sub, Nat.reduceAdd, zg_pos, ↓reduceIte, Int.reduceEq, Int.reduceLE, Int.reduceLT, Int.reduceAdd, Int.reduceSub, Int.reduceMul, Int.reduceNeg, zg_T, zbI_ok, zbL_ok, zbN_ok, zite1, zite2, zite3, zem, Int.cast_ofNat_Int, and_self, and_true, true_and, or_true, true_or, or_self, ite_not, if_true, if_false, not_true_eq_false, not_false_eq_true]
  · rcases List.mem_cons.mp hp with e | e
    · rw [e]; exact zus
    · have g : p.1 ≠ 1 := by
        have := List.all_eq_true.mp (show ([((36 : Int), (1 : Int), (37 : Int)), ((36 : Int), (3 : Int), (38 : Int)), ((38 : Int), (0 : Int), (39 : Int)), ((38 : Int), (1 : Int), (40 : Int)), ((38 : Int), (2 : Int), (41 : Int)), ((38 : Int), (3 : Int), (42 : Int)), ((36 : Int), (5 : Int), (43 : Int)), ((43 : Int), (0 : Int), (44 : Int)), ((43 : Int), (1 : Int), (45 : Int)), ((43 : Int), (2 : Int), (46 : Int))].all fun p => !decide (p.1 = 1)) = true by decide +kernel) p e
        simpa using this
      rw [zun g]
      exact a2 p e
theorem k91_36 {M : zM} {n m : Nat} {d : zV} (h : zQp 46 M) (hn : 18 ≤ n) (hm : 448 ≤ m) : ∃ M', zex 91 36 [] [(2, 1), d] M (zKs.take 46, n, m) = zex 91 43 [] [(2, 1), d] M' (zKs.take 64, n - 18, m - 448) ∧ zQp 64 M' ∧ ∀ a y, a < 1 → M' a y = M a y := by
  have t1 : zKs.take 46 ++ [(16, 0)] = zKs.take 47 := by decide +kernel
  have l1 : (zKs.take 46).length = 46 := by decide +kernel
  have l2 : ((zKs.take 47).length : Int) = 47 := by decide +kernel
  have kr := zkT (j := 47) (r := 1) (kd := (17, 0)) (by decide +kernel)
  have kp := zkT (j := 47) (r := 47) (kd := (16, 0)) (by decide +kernel)
  have t2 : zKs.take 47 ++ [(5, 3), (0, 20), (0, 20), (0, 20), (3, 3), (7, 0), (0, 40), (0, 40), (0, 40), (7, 0), (0, 40), (0, 40), (0, 40), (7, 0), (0, 40), (0, 40), (0, 40)] = zKs.take 64 := by decide +kernel
  have kr2 := zkT (j := 64) (r := 1) (kd := (17, 0)) (by decide +kernel)
  obtain ⟨M1, a1, a2, a3⟩ := k84 (M := zclr M 47) (n := n - 1) (m := m - 10) l2 (kp _ _) (by omega) (by omega)
  rw [t2] at a1
  have f0 : ∀ a y, a ≤ 46 → (a ≠ 1 ∨ y ≠ 6) → zu M1 1 6 47 a y = M a y := fun a y ha hy => by
    by_cases e : a = 1
    · rw [zun2 (by omega), a3 _ _ (by omega) (by omega), zcn (by omega)]
    · rw [zun e, a3 _ _ (by omega) (by omega), zcn (by omega)]
  refine ⟨zu M1 1 6 47, ?_, h.go (new := ((1 : Int), (6 : Int), (47 : Int)) :: [((47 : Int), (2 : Int), (48 : Int)), ((48 : Int), (0 : Int), (49 : Int)), ((48 : Int), (1 : Int), (50 : Int)), ((48 : Int), (2 : Int), (51 : Int)), ((47 : Int), (3 : Int), (52 : Int)), ((47 : Int), (0 : Int), (18 : Int)), ((53 : Int), (1 : Int), (54 : Int)), ((53 : Int), (2 : Int), (55 : Int)), ((53 : Int), (3 : Int), (56 : Int)), ((52 : Int), (0 : Int), (53 : Int)), ((57 : Int), (1 : Int), (58 : Int)), ((57 : Int), (2 : Int), (59 : Int)), ((57 : Int), (3 : Int), (60 : Int)), ((52 : Int), (1 : Int), (57 : Int)), ((61 : Int), (1 : Int), (62 : Int)), ((61 : Int), (2 : Int), (63 : Int)), ((61 : Int), (3 : Int), (64 : Int)), ((52 : Int), (2 : Int), (61 : Int))]) (b := 1) (f := 6) f0 (fun p hp => ?_) (by decide +kernel), fun a y ha => f0 a y (by omega) (by omega)⟩
  · rw [q91_36]
    have v2 := h (1, 2, 18) (by decide +kernel) (by decide) (by decide)
    dsimp only at v2
    simp (disch := omega) only [t1, l1, kr, kr2, kp, a1, v2,  zcn, Int.natCast_add, Nat.sub_sub, Nat.reduceAdd, zg_pos, ↓reduceIte, Int.reduceEq, Int.reduceLE, Int.reduceLT, Int.reduceAdd, Int.reduceSub, Int.reduceMul, Int.reduceNeg, zg_T, zbI_ok, zbL_ok, zbN_ok, zite1, zite2, zite3, zem, Int.cast_ofNat_Int, and_self, and_true, true_and, or_true, true_or, or_self, ite_not, if_true, if_false, not_true_eq_false, not_false_eq_true]
  · rcases List.mem_cons.mp hp with e | e
    · rw [e]; exact zus
    · have g : p.1 ≠ 1 := by
        have := List.all_eq_true.mp (show ([((47 : Int), (2 : Int), (48 : Int)), ((48 : Int), (0 : Int), (49 : Int)), ((48 : Int), (1 : Int), (50 : Int)), ((48 : Int), (2 : Int), (51 : Int)), ((47 : Int), (3 : Int), (52 : Int)), ((47 : Int), (0 : Int), (18 : Int)), ((53 : Int), (1 : Int), (54 : Int)), ((53 : Int), (2 : Int), (55 : Int)), ((53 : Int), (3 : Int), (56 : Int)), ((52 : Int), (0 : Int), (53 : Int)), ((57 : Int), (1 : Int), (58 : Int)), ((57 : Int), (2 : Int), (59 : Int)), ((57 : Int), (3 : Int), (60 : Int)), ((52 : Int), (1 : Int), (57 : Int)), ((61 : Int), (1 : Int), (62 : Int)), ((61 : Int), (2 : Int), (63 : Int)), ((61 : Int), (3 : Int), (64 : Int)), ((52 : Int), (2 : Int), (61 : Int))].all fun p => !decide (p.1 = 1)) = true by decide +kernel) p e
        simpa using this
      rw [zun g]
      exact a2 p e
theorem k91_43 {M : zM} {n m : Nat} {d : zV} (h : zQp 64 M) (hn : 10 ≤ n) (hm : 1026 ≤ m) : ∃ M', zex 91 43 [] [(2, 1), d] M (zKs.take 64, n, m) = zex 91 52 [] [(2, 1), d] M' (zKs.take 74, n - 10, m - 1026) ∧ zQp 74 M' ∧ ∀ a y, a < 1 → M' a y = M a y := by
  have t1 : zKs.take 64 ++ [(8, 0)] = zKs.take 65 := by decide +kernel
  have l1 : (zKs.take 64).length = 64 := by decide +kernel
  have l2 : ((zKs.take 65).length : Int) = 65 := by decide +kernel
  have kr := zkT (j := 65) (r := 1) (kd := (17, 0)) (by decide +kernel)
  have kp := zkT (j := 65) (r := 65) (kd := (8, 0)) (by decide +kernel)
  have t2 : zKs.take 65 ++ [(5, 3), (0, 12), (0, 12), (0, 12), (0, 6), (0, 6), (0, 117), (0, 117), (0, 729)] = zKs.take 74 := by decide +kernel
  have kr2 := zkT (j := 74) (r := 1) (kd := (17, 0)) (by decide +kernel)
  obtain ⟨M1, a1, a2, a3⟩ := k16 (M := zclr M 65) (n := n - 1) (m := m - 12) l2 (kp _ _) (by omega) (by omega)
  rw [t2] at a1
  have f0 : ∀ a y, a ≤ 64 → (a ≠ 1 ∨ y ≠ 7) → zu M1 1 7 65 a y = M a y := fun a y ha hy => by
    by_cases e : a = 1
    · rw [zun2 (by omega), a3 _ _ (by omega) (by omega), zcn (by omega)]
    · rw [zun e, a3 _ _ (by omega) (by omega), zcn (by omega)]
  refine ⟨zu M1 1 7 65, ?_, h.go (new := ((1 : Int), (7 : Int), (65 : Int)) :: [((65 : Int), (3 : Int), (66 : Int)), ((66 : Int), (0 : Int), (67 : Int)), ((66 : Int), (1 : Int), (68 : Int)), ((66 : Int), (2 : Int), (69 : Int)), ((65 : Int), (5 : Int), (70 : Int)), ((65 : Int), (6 : Int), (71 : Int)), ((65 : Int), (8 : Int), (72 : Int)), ((65 : Int), (9 : Int), (73 : Int)), ((65 : Int), (10 : Int), (74 : Int)), ((65 : Int), (0 : Int), (27 : Int)), ((65 : Int), (1 : Int), (25 : Int))]) (b := 1) (f := 7) f0 (fun p hp => ?_) (by decide +kernel), fun a y ha => f0 a y (by omega) (by omega)⟩
  · rw [q91_43]
    have v4 := h (1, 4, 27) (by decide +kernel) (by decide) (by decide)
    dsimp only at v4
    have v3 := h (1, 3, 25) (by decide +kernel) (by decide) (by decide)
    dsimp only at v3
    simp (disch := omega) only [t1, l1, kr, kr2, kp, a1, v4, v3,  zcn, Int.natCast_add, Nat.sub_sub, Nat.reduceAdd, zg_pos, ↓reduceIte, Int.reduceEq, Int.reduceLE, Int.reduceLT, Int.reduceAdd, Int.reduceSub, Int.reduceMul, Int.reduceNeg, zg_T, zbI_ok, zbL_ok, zbN_ok, zite1, zite2, zite3, zem, Int.cast_ofNat_Int, and_self, and_true, true_and, or_true, true_or, or_self, ite_not, if_true, if_false, not_true_eq_false, not_false_eq_true]
  · rcases List.mem_cons.mp hp with e | e
    · rw [e]; exact zus
    · have g : p.1 ≠ 1 := by
        have := List.all_eq_true.mp (show ([((65 : Int), (3 : Int), (66 : Int)), ((66 : Int), (0 : Int), (67 : Int)), ((66 : Int), (1 : Int), (68 : Int)), ((66 : Int), (2 : Int), (69 : Int)), ((65 : Int), (5 : Int), (70 : Int)), ((65 : Int), (6 : Int), (71 : Int)), ((65 : Int), (8 : Int), (72 : Int)), ((65 : Int), (9 : Int), (73 : Int)), ((65 : Int), (10 : Int), (74 : Int)), ((65 : Int), (0 : Int), (27 : Int)), ((65 : Int), (1 : Int), (25 : Int))].all fun p => !decide (p.1 = 1)) = true by decide +kernel) p e
        simpa using this
      rw [zun g]
      exact a2 p e
