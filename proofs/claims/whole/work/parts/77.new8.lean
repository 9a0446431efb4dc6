/-! CONSTRUCTORS: all of the class -/
theorem k91 {M : zM} : ∃ M' n' m', zex 91 0 [] [(2, 1), (9, 0)] M (zKs.take 1, 601023, 7293024) = some ((9, 0), M', (zKs.take 177, n', m')) ∧ zPC M' ∧ zFC M' ∧ (∀ d : Int, 0 ≤ d → d ≤ 5 → M' (76 + 17 * d) 0 = 0) ∧ (∀ a y, a < 1 → M' a y = M a y) ∧ 600000 ≤ n' ∧ 7000000 ≤ m' := by
  obtain ⟨M1, a1, h1, f1⟩ := k91_0 (M := M) (n := 601023) (m := 7293024) (d := (9, 0)) (by decide) (by decide)
  obtain ⟨M2, a2, h2, f2⟩ := k91_7 (n := 601023 - 15) (m := 7293024 - 1180) (d := (9, 0)) h1 (by decide) (by decide)
  obtain ⟨M3, a3, h3, f3⟩ := k91_12 (n := 601023 - 15 - 1) (m := 7293024 - 1180 - 5) (d := (9, 0)) h2 (by decide) (by decide)
  obtain ⟨M4, a4, h4, f4⟩ := k91_17 (n := 601023 - 15 - 1 - 7) (m := 7293024 - 1180 - 5 - 7180) (d := (9, 0)) h3 (by decide) (by decide)
  obtain ⟨M5, a5, h5, f5⟩ := k91_22 (n := 601023 - 15 - 1 - 7 - 2) (m := 7293024 - 1180 - 5 - 7180 - 34) (d := (9, 0)) h4 (by decide) (by decide)
  obtain ⟨M6, a6, h6, f6⟩ := k91_31 (n := 601023 - 15 - 1 - 7 - 2 - 9) (m := 7293024 - 1180 - 5 - 7180 - 34 - 146) (d := (9, 0)) h5 (by decide) (by decide)
  obtain ⟨M7, a7, h7, f7⟩ := k91_36 (n := 601023 - 15 - 1 - 7 - 2 - 9 - 11) (m := 7293024 - 1180 - 5 - 7180 - 34 - 146 - 320) (d := (9, 0)) h6 (by decide) (by decide)
  obtain ⟨M8, a8, h8, f8⟩ := k91_43 (n := 601023 - 15 - 1 - 7 - 2 - 9 - 11 - 18) (m := 7293024 - 1180 - 5 - 7180 - 34 - 146 - 320 - 448) (d := (9, 0)) h7 (by decide) (by decide)
  obtain ⟨M9, a9, h9, f9⟩ := k91_52 (n := 601023 - 15 - 1 - 7 - 2 - 9 - 11 - 18 - 10) (m := 7293024 - 1180 - 5 - 7180 - 34 - 146 - 320 - 448 - 1026) (d := (9, 0)) h8 (by decide) (by decide)
  obtain ⟨M10, a10, h10, z10, f10⟩ := k91_t0 (n := 601023 - 15 - 1 - 7 - 2 - 9 - 11 - 18 - 10 - 1) (m := 7293024 - 1180 - 5 - 7180 - 34 - 146 - 320 - 448 - 1026 - 6) h9 (by decide) (by decide)
  obtain ⟨M11, a11, h11, z11, f11⟩ := k91_t1 (n := 601023 - 15 - 1 - 7 - 2 - 9 - 11 - 18 - 10 - 1 - 17) (m := 7293024 - 1180 - 5 - 7180 - 34 - 146 - 320 - 448 - 1026 - 6 - 1248) h10 (by decide) (by decide)
  obtain ⟨M12, a12, h12, z12, f12⟩ := k91_t2 (n := 601023 - 15 - 1 - 7 - 2 - 9 - 11 - 18 - 10 - 1 - 17 - 17) (m := 7293024 - 1180 - 5 - 7180 - 34 - 146 - 320 - 448 - 1026 - 6 - 1248 - 1248) h11 (by decide) (by decide)
  obtain ⟨M13, a13, h13, z13, f13⟩ := k91_t3 (n := 601023 - 15 - 1 - 7 - 2 - 9 - 11 - 18 - 10 - 1 - 17 - 17 - 17) (m := 7293024 - 1180 - 5 - 7180 - 34 - 146 - 320 - 448 - 1026 - 6 - 1248 - 1248 - 1248) h12 (by decide) (by decide)
  obtain ⟨M14, a14, h14, z14, f14⟩ := k91_t4 (n := 601023 - 15 - 1 - 7 - 2 - 9 - 11 - 18 - 10 - 1 - 17 - 17 - 17 - 17) (m := 7293024 - 1180 - 5 - 7180 - 34 - 146 - 320 - 448 - 1026 - 6 - 1248 - 1248 - 1248 - 1248) h13 (by decide) (by decide)
  obtain ⟨M15, a15, h15, z15, f15⟩ := k91_t5 (n := 601023 - 15 - 1 - 7 - 2 - 9 - 11 - 18 - 10 - 1 - 17 - 17 - 17 - 17 - 17) (m := 7293024 - 1180 - 5 - 7180 - 34 - 146 - 320 - 448 - 1026 - 6 - 1248 - 1248 - 1248 - 1248 - 1248) h14 (by decide) (by decide)
  have rC : zPC M15 := fun p hp => by
    have := List.all_eq_true.mp (show (zPCl.all fun p => decide (p.1 ≤ 177) && decide (p.2.2 ≤ 177)) = true by decide +kernel) p hp
    simp only [Bool.and_eq_true, decide_eq_true_eq] at this
    exact h15 p hp this.1 this.2
  obtain ⟨M', c1, c2, c3, c4⟩ := e132c (n := 601023 - 15 - 1 - 7 - 2 - 9 - 11 - 18 - 10 - 1 - 17 - 17 - 17 - 17 - 17 - 17) (m := 7293024 - 1180 - 5 - 7180 - 34 - 146 - 320 - 448 - 1026 - 6 - 1248 - 1248 - 1248 - 1248 - 1248 - 1248) rC
  refine ⟨M', 601023 - 15 - 1 - 7 - 2 - 9 - 11 - 18 - 10 - 1 - 17 - 17 - 17 - 17 - 17 - 17, 7293024 - 1180 - 5 - 7180 - 34 - 146 - 320 - 448 - 1026 - 6 - 1248 - 1248 - 1248 - 1248 - 1248 - 1248, ?_, c3, c2, fun d d0 d5 => ?_, fun a y ha => ?_, by decide, by decide⟩
  · rw [a1, a2, a3, a4, a5, a6, a7, a8, a9, a10, a11, a12, a13, a14, a15, q91_58, if_pos (by decide), zg_pos (zq177_1 _ _), c1]
    rfl
  · rw [c4 _ _ (by omega)]
    rcases (by omega : d = 0 ∨ d = 1 ∨ d = 2 ∨ d = 3 ∨ d = 4 ∨ d = 5) with rfl | rfl | rfl | rfl | rfl | rfl
    · show M15 76 0 = 0
      rw [f15 _ _ (by decide) (by decide), f14 _ _ (by decide) (by decide), f13 _ _ (by decide) (by decide), f12 _ _ (by decide) (by decide), f11 _ _ (by decide) (by decide), z10]
    · show M15 93 0 = 0
      rw [f15 _ _ (by decide) (by decide), f14 _ _ (by decide) (by decide), f13 _ _ (by decide) (by decide), f12 _ _ (by decide) (by decide), z11]
    · show M15 110 0 = 0
      rw [f15 _ _ (by decide) (by decide), f14 _ _ (by decide) (by decide), f13 _ _ (by decide) (by decide), z12]
    · show M15 127 0 = 0
      rw [f15 _ _ (by decide) (by decide), f14 _ _ (by decide) (by decide), z13]
    · show M15 144 0 = 0
      rw [f15 _ _ (by decide) (by decide), z14]
    · show M15 161 0 = 0
      rw [z15]
  · rw [c4 _ _ (by omega), f15 _ _ (by omega) (by omega), f14 _ _ (by omega) (by omega), f13 _ _ (by omega) (by omega), f12 _ _ (by omega) (by omega), f11 _ _ (by omega) (by omega), f10 _ _ (by omega) (by omega), f9 _ _ ha, f8 _ _ ha, f7 _ _ ha, f6 _ _ ha, f5 _ _ ha, f4 _ _ ha, f3 _ _ ha, f2 _ _ ha, f1 _ _ ha]
/-! THE LAW: its start -/
theorem lw_start {L : Nat} {xs : Nat → Int32} (hL : L ≤ 3072) : ∃ M n m, zex 228 0 [] (zloc 8 [(3, 4)]) (zM0 L xs) ([], 601024, 7293034) = zex 228 13 [] [(3, 4), (2, 1), (2, 178), (2, 222), (0, 0), (9, 0), (9, 0), (9, 0)] M (zKs, n, m) ∧ zLw 0 L M ∧ 500000 ≤ n ∧ 6000000 ≤ m := by
  obtain ⟨A, n, m, a1, a2, a3, a4, a5, a6, a7⟩ := k91 (M := zclr (zM0 L xs) 1)
  have t1 : [((17, 0) : Nat × Nat)] = zKs.take 1 := by decide +kernel
  have t2 : zKs.take 177 ++ [(18, 0)] = zKs.take 178 := by decide +kernel
  have l2 : (zKs.take 177).length = 177 := by decide +kernel
  have l3 : ((zKs.take 178).length : Int) = 178 := by decide +kernel
  have k1 := zkT (j := 1) (r := 1) (kd := (17, 0)) (by decide +kernel)
  have k2 := zkT (j := 178) (r := 178) (kd := (18, 0)) (by decide +kernel)
  obtain ⟨B, b1, b2, b3, b4, b5⟩ := k141 (M := zclr A 178) (n := n - 1) (m := m - 67) l3 (k2 _ _) (by omega) (by omega)
  have b6 := b4 (fun y => zcz)
  have l4 : (zKs.take 221).length = 221 := by decide +kernel
  have t4 : zKs.take 221 ++ [(1, 1)] = zKs := by decide +kernel
  have t3 : zKs.take 178 ++ [(0, 3), (0, 120), (0, 120), (0, 120), (0, 12), (0, 12), (2, 1024), (0, 30), (0, 20), (0, 20), (0, 20), (0, 12), (0, 12), (0, 12), (0, 9), (0, 60), (0, 60), (0, 60), (0, 60), (0, 20), (0, 20), (0, 20), (0, 6), (0, 6), (1, 384), (0, 18), (0, 720), (0, 720), (0, 720), (0, 6), (0, 6), (0, 72), (0, 72), (0, 120), (0, 3), (0, 3), (0, 3), (0, 4096), (0, 3), (0, 120), (0, 120), (0, 120), (1, 64)] = zKs.take 221 := by decide +kernel
  rw [t3] at b1
  have u1 : ∀ r y, r ≤ 177 → zclr B 222 r y = A r y := fun r y hr => by rw [zcn (by omega), b5 _ _ (by omega), zcn (by omega)]
  have u2 : ∀ r y, r ≤ 221 → zclr B 222 r y = B r y := fun r y hr => zcn (by omega)
  have rP : zPR B := fun p hp => by
    have := List.all_eq_true.mp (show (zPRl.all fun p => decide (p ∈ [((178 : Int), (1 : Int), (179 : Int)), ((178 : Int), (2 : Int), (180 : Int)), ((178 : Int), (3 : Int), (181 : Int)), ((178 : Int), (4 : Int), (182 : Int)), ((178 : Int), (7 : Int), (183 : Int)), ((178 : Int), (8 : Int), (184 : Int)), ((178 : Int), (9 : Int), (185 : Int)), ((178 : Int), (14 : Int), (186 : Int)), ((178 : Int), (18 : Int), (187 : Int)), ((178 : Int), (19 : Int), (188 : Int)), ((178 : Int), (20 : Int), (189 : Int)), ((178 : Int), (22 : Int), (190 : Int)), ((178 : Int), (23 : Int), (191 : Int)), ((178 : Int), (24 : Int), (192 : Int)), ((178 : Int), (27 : Int), (193 : Int)), ((178 : Int), (29 : Int), (194 : Int)), ((178 : Int), (30 : Int), (195 : Int)), ((178 : Int), (31 : Int), (196 : Int)), ((178 : Int), (32 : Int), (197 : Int)), ((178 : Int), (34 : Int), (198 : Int)), ((178 : Int), (35 : Int), (199 : Int)), ((178 : Int), (36 : Int), (200 : Int)), ((178 : Int), (37 : Int), (201 : Int)), ((178 : Int), (38 : Int), (202 : Int)), ((178 : Int), (39 : Int), (203 : Int)), ((178 : Int), (40 : Int), (204 : Int)), ((178 : Int), (41 : Int), (205 : Int)), ((178 : Int), (42 : Int), (206 : Int)), ((178 : Int), (43 : Int), (207 : Int)), ((178 : Int), (44 : Int), (208 : Int)), ((178 : Int), (45 : Int), (209 : Int)), ((178 : Int), (46 : Int), (210 : Int)), ((178 : Int), (47 : Int), (211 : Int)), ((178 : Int), (48 : Int), (212 : Int)), ((178 : Int), (49 : Int), (213 : Int)), ((178 : Int), (50 : Int), (214 : Int)), ((178 : Int), (51 : Int), (215 : Int)), ((178 : Int), (59 : Int), (216 : Int)), ((178 : Int), (60 : Int), (217 : Int)), ((178 : Int), (61 : Int), (218 : Int)), ((178 : Int), (62 : Int), (219 : Int)), ((178 : Int), (65 : Int), (220 : Int)), ((178 : Int), (66 : Int), (221 : Int))])) = true by decide +kernel) p hp
    exact b2 p (by simpa using this)
  have rt : zRt A B := fun d d0 d5 => ⟨by rw [a4 d d0 d5, b3], by rw [b3]; decide, fun h => by rw [b3] at h; exact absurd h (by decide), fun h => by rw [b3] at h; exact absurd h (by decide)⟩
  have H := (zRel_fresh a2 rP a3 b6 rt).rows (fun r y _ hr => u1 r y hr) (fun r y _ hr => u2 r y hr)
  have s5 : ∀ y, zclr B 222 (-5) y = zM0 L xs (-5) y := fun y => by
    rw [u1 _ _ (by decide), a5 _ _ (by decide), zcn (by decide)]
  refine ⟨zclr B 222, n - 1 - 43 - 1, m - 67 - 9228 - 1, ?_, ⟨H, ?_, fun x => ?_⟩, by omega, by omega⟩
  · show zex 228 0 [] [(3, 4), (9, 0), (9, 0), (9, 0), (9, 0), (9, 0), (9, 0), (9, 0)] _ _ = _
    rw [q228_0]
    simp (disch := omega) only [List.nil_append, List.length_nil, t1, k1, a1, t2, l2, k2, b1, l4, t4, Int.natCast_zero, Int.zero_add, Int.reduceToNat, Nat.reduceSub, Nat.reduceAdd, zg_pos, ↓reduceIte, Int.reduceEq, Int.reduceLE, Int.reduceLT, Int.reduceAdd, Int.reduceSub, Int.reduceMul, Int.reduceNeg, zg_T, zbI_ok, zbL_ok, zbN_ok, zite1, zite2, zite3, zem, Int.cast_ofNat_Int, and_self, and_true, true_and, or_true, true_or, or_self, ite_not, if_true, if_false, not_true_eq_false, not_false_eq_true]
  · show zclr B 222 (-5) (-1) = _
    rw [s5]; rfl
  · show zI (zclr B 222 (-5) x)
    rw [s5]
    unfold zM0
    rw [if_pos rfl]
    by_cases e : x = -1
    · rw [if_pos e]; unfold zI; omega
    · rw [if_neg e]
      exact ⟨Int32.le_toInt _, by have := Int32.toInt_lt (xs x.toNat); omega⟩
