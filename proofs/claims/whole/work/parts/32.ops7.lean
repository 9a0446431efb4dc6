/-! TAPES: where they lie; clear -/
theorem zrp75 {M : zM} (h : zPC M) {d : Int} (hd : 0 ≤ d ∧ d ≤ 5) : M 75 d = 76 + 17 * d := by
  rcases (by omega : d = 0 ∨ d = 1 ∨ d = 2 ∨ d = 3 ∨ d = 4 ∨ d = 5) with rfl | rfl | rfl | rfl | rfl | rfl
  · exact zp_75_0 h
  · exact zp_75_1 h
  · exact zp_75_2 h
  · exact zp_75_3 h
  · exact zp_75_4 h
  · exact zp_75_5 h
theorem zrk75 (n m : Nat) {d : Int} (hd : 0 ≤ d ∧ d ≤ 5) : zkd (zKs, n, m) (76 + 17 * d) = (14, 0) ∧ zkd (zKs, n, m) (77 + 17 * d) = (1, 64) := by
  rcases (by omega : d = 0 ∨ d = 1 ∨ d = 2 ∨ d = 3 ∨ d = 4 ∨ d = 5) with rfl | rfl | rfl | rfl | rfl | rfl
  · exact ⟨zk_76 n m, zk_77 n m⟩
  · exact ⟨zk_93 n m, zk_94 n m⟩
  · exact ⟨zk_110 n m, zk_111 n m⟩
  · exact ⟨zk_127 n m, zk_128 n m⟩
  · exact ⟨zk_144 n m, zk_145 n m⟩
  · exact ⟨zk_161 n m, zk_162 n m⟩
theorem zrf75 {d : Int} (hd : 0 ≤ d ∧ d ≤ 5) : zPCc (76 + 17 * d) 0 = false ∧ zPCc (76 + 17 * d) 1 = false ∧ ∀ y, zPCc (77 + 17 * d) y = false := by
  rcases (by omega : d = 0 ∨ d = 1 ∨ d = 2 ∨ d = 3 ∨ d = 4 ∨ d = 5) with rfl | rfl | rfl | rfl | rfl | rfl <;> exact ⟨by decide +kernel, by decide +kernel, fun y => zPC_row (by decide +kernel)⟩
theorem o_clear {q : Int} {M P : zM} (h : zRel q M P) (n m : Nat) (d : Int) : zOpn q 127 214 [(0, d), (9, 0)] [(0, d), (9, 0)] M P n m := by
  obtain ⟨⟨r0, r1⟩, rc, rh, rp, rb, rs, rw0, rx, ro, rk, rt, rr⟩ := id h
  by_cases hd : 0 ≤ d ∧ d ≤ 5
  · have t1 := (rt d hd.1 hd.2).1
    refine ⟨P 201 d, zu M (76 + 17 * d) 0 0, zu P 201 d 0, ?_, zCf.rfl.zu (by omega), ?_, zRf.rfl.zu (by omega), ⟨zPC_zu r0 (zrf75 hd).1, zPR_zu r1 (zPR_row (by decide +kernel))⟩, rc.of (by (intros; first | rfl | (simp (disch := omega) only [zun, zun2, and_self]))) (by (intros; first | rfl | (simp (disch := omega) only [zun, zun2, and_self]))) (by (intros; first | rfl | (simp (disch := omega) only [zun, zun2, and_self]))), (by (simp (disch := omega) only [zun, zun2]; exact rh)), rp.of (by (intros; first | rfl | (simp (disch := omega) only [zun, zun2, and_self]))) (by (intros; first | rfl | (simp (disch := omega) only [zun, zun2, and_self]))) (by (intros; first | rfl | (simp (disch := omega) only [zun, zun2, and_self]))) (by (intros; first | rfl | (simp (disch := omega) only [zun, zun2, and_self]))), rb.of (by (intros; first | rfl | (simp (disch := omega) only [zun, zun2, and_self]))) (by (intros; first | rfl | (simp (disch := omega) only [zun, zun2, and_self]))) (by (intros; first | rfl | (simp (disch := omega) only [zun, zun2, and_self]))), rs.of (by (intros; first | rfl | (simp (disch := omega) only [zun, zun2, and_self]))) (by (intros; first | rfl | (simp (disch := omega) only [zun, zun2, and_self]))) (by (intros; first | rfl | (simp (disch := omega) only [zun, zun2, and_self]))) (by (intros; first | rfl | (simp (disch := omega) only [zun, zun2, and_self]))), rw0.of (by (intros; first | rfl | (simp (disch := omega) only [zun, zun2, and_self]))) (by (intros; first | rfl | (simp (disch := omega) only [zun, zun2, and_self]))) (by (intros; first | rfl | (simp (disch := omega) only [zun, zun2, and_self]))) (by (intros; first | rfl | (simp (disch := omega) only [zun, zun2, and_self]))) (by (intros; first | rfl | (simp (disch := omega) only [zun, zun2, and_self]))) (by (intros; first | rfl | (simp (disch := omega) only [zun, zun2, and_self]))), rx.of (by (intros; first | rfl | (simp (disch := omega) only [zun, zun2, and_self]))) (by (intros; first | rfl | (simp (disch := omega) only [zun, zun2, and_self]))) (by (intros; first | rfl | (simp (disch := omega) only [zun, zun2, and_self]))) (by (intros; first | rfl | (simp (disch := omega) only [zun, zun2, and_self]))), ro.of (by (intros; first | rfl | (simp (disch := omega) only [zun, zun2, and_self]))) (by (intros; first | rfl | (simp (disch := omega) only [zun, zun2, and_self]))) (by (intros; first | rfl | (simp (disch := omega) only [zun, zun2, and_self]))) (by (intros; first | rfl | (simp (disch := omega) only [zun, zun2, and_self]))), rk.of (by (intros; first | rfl | (simp (disch := omega) only [zun, zun2, and_self]))) (by (intros; first | rfl | (simp (disch := omega) only [zun, zun2, and_self]))) (by (intros; first | rfl | (simp (disch := omega) only [zun, zun2, and_self]))) (by (intros; first | rfl | (simp (disch := omega) only [zun, zun2, and_self]))) (by (intros; first | rfl | (simp (disch := omega) only [zun, zun2, and_self]))), ?_, (by (simp (disch := omega) only [zun, zun2]; exact rr))⟩
    · simp (disch := omega) only [q127_0, e136, hd, zk_1, zk_75, zp_1_8 r0, zrp75 r0 hd, (zrk75 n m hd).1, t1, zg_pos, ↓reduceIte, Int.reduceEq, Int.reduceLE, Int.reduceLT, Int.reduceAdd, Int.reduceSub, Int.reduceMul, Int.reduceNeg, zg_T, zbI_ok, zbL_ok, zbN_ok, zite1, zite2, zite3, zem, Int.cast_ofNat_Int, and_self, and_true, true_and, or_true, true_or, or_self, ite_not, if_true, if_false, not_true_eq_false, not_false_eq_true]
    · simp (disch := omega) only [q214_0, e207, hd, zk_178, zk_201, zp_178_37 r1, zg_pos, ↓reduceIte, Int.reduceEq, Int.reduceLE, Int.reduceLT, Int.reduceAdd, Int.reduceSub, Int.reduceMul, Int.reduceNeg, zg_T, zbI_ok, zbL_ok, zbN_ok, zite1, zite2, zite3, zem, Int.cast_ofNat_Int, and_self, and_true, true_and, or_true, true_or, or_self, ite_not, if_true, if_false, not_true_eq_false, not_false_eq_true]
    · intro e h0 h5
      by_cases he : e = d
      · subst he
        rw [zus, zus]
        exact ⟨rfl, by omega, fun a b => by omega, fun a => by omega⟩
      · obtain ⟨g1, g2, g3, g4⟩ := rt e h0 h5
        simp (disch := omega) only [zun, zun2]
        refine ⟨g1, g2, fun a b => ?_, fun a => ?_⟩
        · obtain ⟨f1, f2, f3⟩ := g3 a b
          exact ⟨f1, f2, f3⟩
        · obtain ⟨f1, f2, f3, f4⟩ := g4 a
          exact ⟨f1.of (fun r y hr hr' => zun (by omega)) (fun _ _ _ => rfl) (fun _ _ _ => ⟨rfl, rfl, rfl⟩), f2, f3, f4.of (zun (by omega)) (fun y => zun (by omega)) rfl (fun _ _ _ => ⟨rfl, rfl⟩)⟩
  · refine ⟨-1, M, P, ?_, zCf.rfl, ?_, zRf.rfl, h⟩
    · simp only [q127_0, e136, hd, ↓reduceIte, Int.reduceEq, Int.reduceLE, Int.reduceLT, Int.reduceAdd, Int.reduceSub, Int.reduceMul, Int.reduceNeg, zg_T, zbI_ok, zbL_ok, zbN_ok, zite1, zite2, zite3, zem, Int.cast_ofNat_Int, and_self, and_true, true_and, or_true, true_or, or_self, ite_not, if_true, if_false, not_true_eq_false, not_false_eq_true]
    · simp only [q214_0, e207, hd, ↓reduceIte, Int.reduceEq, Int.reduceLE, Int.reduceLT, Int.reduceAdd, Int.reduceSub, Int.reduceMul, Int.reduceNeg, zg_T, zbI_ok, zbL_ok, zbN_ok, zite1, zite2, zite3, zem, Int.cast_ofNat_Int, and_self, and_true, true_and, or_true, true_or, or_self, ite_not, if_true, if_false, not_true_eq_false, not_false_eq_true]
