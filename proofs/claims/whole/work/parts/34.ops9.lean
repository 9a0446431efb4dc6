/-! WISH AND SPOT -/
theorem o_wish {q : Int} {M P : zM} (h : zRel q M P) (n m : Nat) (k a b : Int) : zOpn q 109 175 [(0, k), (0, a), (0, b)] [(0, k), (0, a), (0, b), (9, 0)] M P n m := by
  obtain ⟨⟨r0, r1⟩, rc, rh, rp, rb, rs, rw0, rx, ro, rk, rt, rr⟩ := id h
  obtain ⟨v, v1, v2⟩ := e137 (M := M) (X := (zKs, n, m)) (k := k) (a := a) (b := b)
  obtain ⟨x1, x2, x3⟩ := id rx
  rcases v2 with ⟨rfl, hg⟩ | ⟨rfl, hg⟩
  · have g2 : zex 175 0 [] [(2, 178), (0, k), (0, a), (0, b), (9, 0)] P (zKs, n, m) = zex 175 30 [(0, 1)] [(2, 178), (0, k), (0, a), (0, b), (9, 0)] P (zKs, n, m) := by
      rcases hg with ⟨rfl, ha, hb⟩ | ⟨hk, ha, rfl⟩ | ⟨rfl, ha, rfl⟩
      · simp only [q175_0, e153, ha, hb, ↓reduceIte, Int.reduceEq, Int.reduceLE, Int.reduceLT, Int.reduceAdd, Int.reduceSub, Int.reduceMul, Int.reduceNeg, zg_T, zbI_ok, zbL_ok, zbN_ok, zite1, zite2, zite3, zem, Int.cast_ofNat_Int, and_self, and_true, true_and, or_true, true_or, or_self, ite_not, if_true, if_false, not_true_eq_false, not_false_eq_true]
      · have hk' : 1 ≤ k ∧ k ≤ 2 := by omega
        have hk0 : ¬ k = 0 := by omega
        simp only [q175_0, q175_27, e143, hk0, hk', ha, ↓reduceIte, Int.reduceEq, Int.reduceLE, Int.reduceLT, Int.reduceAdd, Int.reduceSub, Int.reduceMul, Int.reduceNeg, zg_T, zbI_ok, zbL_ok, zbN_ok, zite1, zite2, zite3, zem, Int.cast_ofNat_Int, and_self, and_true, true_and, or_true, true_or, or_self, ite_not, if_true, if_false, not_true_eq_false, not_false_eq_true]
      · simp only [q175_0, q175_27, e143, ha, and_false, ↓reduceIte, Int.reduceEq, Int.reduceLE, Int.reduceLT, Int.reduceAdd, Int.reduceSub, Int.reduceMul, Int.reduceNeg, zg_T, zbI_ok, zbL_ok, zbN_ok, zite1, zite2, zite3, zem, Int.cast_ofNat_Int, and_self, and_true, true_and, or_true, true_or, or_self, ite_not, if_true, if_false, not_true_eq_false, not_false_eq_true]
    by_cases hf : P 178 17 < 20
    · have c1 := e85 (n := n) (m := m) (k := k) (a := a) (b := b) r0 (by omega)
      rw [x1] at c1
      have hf2 : ¬ P 178 17 = 20 := by omega
      refine ⟨P 178 17 + 1, zu (zu (zu (zu M 49 (P 178 17) k) 50 (P 178 17) a) 51 (P 178 17) b) 47 1 (P 178 17 + 1), zu (zu (zu (zu P 187 (P 178 17) k) 188 (P 178 17) a) 189 (P 178 17) b) 178 17 (P 178 17 + 1), ?_, (((zCf.rfl.zu (by omega)).zu (by omega)).zu (by omega)).zu (by omega), ?_, (((zRf.rfl.zu (by omega)).zu (by omega)).zu (by omega)).zu (by omega), ⟨zPC_zu (zPC_zu (zPC_zu (zPC_zu r0 (zPC_row (by decide +kernel))) (zPC_row (by decide +kernel))) (zPC_row (by decide +kernel))) (by decide +kernel), zPR_zu (zPR_zu (zPR_zu (zPR_zu r1 (zPR_row (by decide +kernel))) (zPR_row (by decide +kernel))) (zPR_row (by decide +kernel))) (by decide +kernel)⟩, rc.of (by (intros; first | rfl | (simp (disch := omega) only [zun, zun2, and_self]))) (by (intros; first | rfl | (simp (disch := omega) only [zun, zun2, and_self]))) (by (intros; first | rfl | (simp (disch := omega) only [zun, zun2, and_self]))), (by (simp (disch := omega) only [zun, zun2]; exact rh)), rp.of (by (intros; first | rfl | (simp (disch := omega) only [zun, zun2, and_self]))) (by (intros; first | rfl | (simp (disch := omega) only [zun, zun2, and_self]))) (by (intros; first | rfl | (simp (disch := omega) only [zun, zun2, and_self]))) (by (intros; first | rfl | (simp (disch := omega) only [zun, zun2, and_self]))), rb.of (by (intros; first | rfl | (simp (disch := omega) only [zun, zun2, and_self]))) (by (intros; first | rfl | (simp (disch := omega) only [zun, zun2, and_self]))) (by (intros; first | rfl | (simp (disch := omega) only [zun, zun2, and_self]))), rs.of (by (intros; first | rfl | (simp (disch := omega) only [zun, zun2, and_self]))) (by (intros; first | rfl | (simp (disch := omega) only [zun, zun2, and_self]))) (by (intros; first | rfl | (simp (disch := omega) only [zun, zun2, and_self]))) (by (intros; first | rfl | (simp (disch := omega) only [zun, zun2, and_self]))), rw0.of (by (intros; first | rfl | (simp (disch := omega) only [zun, zun2, and_self]))) (by (intros; first | rfl | (simp (disch := omega) only [zun, zun2, and_self]))) (by (intros; first | rfl | (simp (disch := omega) only [zun, zun2, and_self]))) (by (intros; first | rfl | (simp (disch := omega) only [zun, zun2, and_self]))) (by (intros; first | rfl | (simp (disch := omega) only [zun, zun2, and_self]))) (by (intros; first | rfl | (simp (disch := omega) only [zun, zun2, and_self]))), ?_, ro.of (by (intros; first | rfl | (simp (disch := omega) only [zun, zun2, and_self]))) (by (intros; first | rfl | (simp (disch := omega) only [zun, zun2, and_self]))) (by (intros; first | rfl | (simp (disch := omega) only [zun, zun2, and_self]))) (by (intros; first | rfl | (simp (disch := omega) only [zun, zun2, and_self]))), rk.of (by (intros; first | rfl | (simp (disch := omega) only [zun, zun2, and_self]))) (by (intros; first | rfl | (simp (disch := omega) only [zun, zun2, and_self]))) (by (intros; first | rfl | (simp (disch := omega) only [zun, zun2, and_self]))) (by (intros; first | rfl | (simp (disch := omega) only [zun, zun2, and_self]))) (by (intros; first | rfl | (simp (disch := omega) only [zun, zun2, and_self]))), rt.of (by (intros; first | rfl | (simp (disch := omega) only [zun, zun2, and_self]))) (by (intros; first | rfl | (simp (disch := omega) only [zun, zun2, and_self]))), (by (simp (disch := omega) only [zun, zun2]; exact rr))⟩
      · simp (disch := omega) only [q109_0, v1, x1, hf, c1, zk_1, zk_47, zp_1_6 r0, zun, zus, zg_pos, ↓reduceIte, Int.reduceEq, Int.reduceLE, Int.reduceLT, Int.reduceAdd, Int.reduceSub, Int.reduceMul, Int.reduceNeg, zg_T, zbI_ok, zbL_ok, zbN_ok, zite1, zite2, zite3, zem, Int.cast_ofNat_Int, and_self, and_true, true_and, or_true, true_or, or_self, ite_not, if_true, if_false, not_true_eq_false, not_false_eq_true]
      · rw [g2]
        simp (disch := omega) only [q175_30, q175_47, q175_53, q175_59, q175_65, hf2, zk_178, zk_187, zk_188, zk_189, zp_178_18 r1, zp_178_19 r1, zp_178_20 r1, zun, zus, zg_pos, zI, ↓reduceIte, Int.reduceEq, Int.reduceLE, Int.reduceLT, Int.reduceAdd, Int.reduceSub, Int.reduceMul, Int.reduceNeg, zg_T, zbI_ok, zbL_ok, zbN_ok, zite1, zite2, zite3, zem, Int.cast_ofNat_Int, and_self, and_true, true_and, or_true, true_or, or_self, ite_not, if_true, if_false, not_true_eq_false, not_false_eq_true]
      · refine ⟨by rw [zus, zus], by rw [zus]; omega, fun i hi hj => ?_⟩
        rw [zus] at hj
        by_cases e : i = P 178 17
        · subst e
          simp (disch := omega) only [zun, zun2, zus]
          exact ⟨trivial, trivial, trivial, hg⟩
        · simp (disch := omega) only [zun, zun2]
          exact x3 i hi (by omega)
    · have hf2 : P 178 17 = 20 := by omega
      refine ⟨-2, M, P, ?_, zCf.rfl, ?_, zRf.rfl, h⟩
      · simp (disch := omega) only [q109_0, v1, x1, hf, zk_1, zk_47, zp_1_6 r0, zg_pos, ↓reduceIte, Int.reduceEq, Int.reduceLE, Int.reduceLT, Int.reduceAdd, Int.reduceSub, Int.reduceMul, Int.reduceNeg, zg_T, zbI_ok, zbL_ok, zbN_ok, zite1, zite2, zite3, zem, Int.cast_ofNat_Int, and_self, and_true, true_and, or_true, true_or, or_self, ite_not, if_true, if_false, not_true_eq_false, not_false_eq_true]
      · rw [g2]
        simp (disch := omega) only [q175_30, hf2, zk_178, zg_pos, ↓reduceIte, Int.reduceEq, Int.reduceLE, Int.reduceLT, Int.reduceAdd, Int.reduceSub, Int.reduceMul, Int.reduceNeg, zg_T, zbI_ok, zbL_ok, zbN_ok, zite1, zite2, zite3, zem, Int.cast_ofNat_Int, and_self, and_true, true_and, or_true, true_or, or_self, ite_not, if_true, if_false, not_true_eq_false, not_false_eq_true]
  · have g2 : zex 175 0 [] [(2, 178), (0, k), (0, a), (0, b), (9, 0)] P (zKs, n, m) = zex 175 30 [(0, 0)] [(2, 178), (0, k), (0, a), (0, b), (9, 0)] P (zKs, n, m) := by
      by_cases k0 : k = 0
      · by_cases ha : 0 ≤ a ∧ a ≤ 31
        · by_cases hb : 0 ≤ b ∧ b ≤ 31
          · exact absurd (Or.inl ⟨k0, ha, hb⟩) hg
          · simp only [q175_0, e153, k0, ha, hb, ↓reduceIte, Int.reduceEq, Int.reduceLE, Int.reduceLT, Int.reduceAdd, Int.reduceSub, Int.reduceMul, Int.reduceNeg, zg_T, zbI_ok, zbL_ok, zbN_ok, zite1, zite2, zite3, zem, Int.cast_ofNat_Int, and_self, and_true, true_and, or_true, true_or, or_self, ite_not, if_true, if_false, not_true_eq_false, not_false_eq_true]
        · simp only [q175_0, e153, k0, ha, false_and, ↓reduceIte, Int.reduceEq, Int.reduceLE, Int.reduceLT, Int.reduceAdd, Int.reduceSub, Int.reduceMul, Int.reduceNeg, zg_T, zbI_ok, zbL_ok, zbN_ok, zite1, zite2, zite3, zem, Int.cast_ofNat_Int, and_self, and_true, true_and, or_true, true_or, or_self, ite_not, if_true, if_false, not_true_eq_false, not_false_eq_true]
      · by_cases hb : b = 0
        · by_cases hk : 1 ≤ k ∧ k ≤ 2
          · by_cases ha : 1 ≤ a ∧ a ≤ 99
            · exact absurd (Or.inr (Or.inl ⟨by omega, ha, hb⟩)) hg
            · simp only [q175_0, q175_29, e143, k0, hb, hk, ha, ↓reduceIte, Int.reduceEq, Int.reduceLE, Int.reduceLT, Int.reduceAdd, Int.reduceSub, Int.reduceMul, Int.reduceNeg, zg_T, zbI_ok, zbL_ok, zbN_ok, zite1, zite2, zite3, zem, Int.cast_ofNat_Int, and_self, and_true, true_and, or_true, true_or, or_self, ite_not, if_true, if_false, not_true_eq_false, not_false_eq_true]
          · by_cases k3 : k = 3
            · by_cases ha : 0 ≤ a ∧ a ≤ 3
              · exact absurd (Or.inr (Or.inr ⟨k3, ha, hb⟩)) hg
              · simp only [q175_0, q175_29, e143, k3, hb, ha, and_false, ↓reduceIte, Int.reduceEq, Int.reduceLE, Int.reduceLT, Int.reduceAdd, Int.reduceSub, Int.reduceMul, Int.reduceNeg, zg_T, zbI_ok, zbL_ok, zbN_ok, zite1, zite2, zite3, zem, Int.cast_ofNat_Int, and_self, and_true, true_and, or_true, true_or, or_self, ite_not, if_true, if_false, not_true_eq_false, not_false_eq_true]
            · simp only [q175_0, q175_29, e143, k0, hb, hk, k3, ↓reduceIte, Int.reduceEq, Int.reduceLE, Int.reduceLT, Int.reduceAdd, Int.reduceSub, Int.reduceMul, Int.reduceNeg, zg_T, zbI_ok, zbL_ok, zbN_ok, zite1, zite2, zite3, zem, Int.cast_ofNat_Int, and_self, and_true, true_and, or_true, true_or, or_self, ite_not, if_true, if_false, not_true_eq_false, not_false_eq_true]
        · simp only [q175_0, q175_29, k0, hb, ↓reduceIte, Int.reduceEq, Int.reduceLE, Int.reduceLT, Int.reduceAdd, Int.reduceSub, Int.reduceMul, Int.reduceNeg, zg_T, zbI_ok, zbL_ok, zbN_ok, zite1, zite2, zite3, zem, Int.cast_ofNat_Int, and_self, and_true, true_and, or_true, true_or, or_self, ite_not, if_true, if_false, not_true_eq_false, not_false_eq_true]
    refine ⟨-1, M, P, ?_, zCf.rfl, ?_, zRf.rfl, h⟩
    · simp only [q109_0, v1, ↓reduceIte, Int.reduceEq, Int.reduceLE, Int.reduceLT, Int.reduceAdd, Int.reduceSub, Int.reduceMul, Int.reduceNeg, zg_T, zbI_ok, zbL_ok, zbN_ok, zite1, zite2, zite3, zem, Int.cast_ofNat_Int, and_self, and_true, true_and, or_true, true_or, or_self, ite_not, if_true, if_false, not_true_eq_false, not_false_eq_true]
    · rw [g2]
      simp only [q175_30, ↓reduceIte, Int.reduceEq, Int.reduceLE, Int.reduceLT, Int.reduceAdd, Int.reduceSub, Int.reduceMul, Int.reduceNeg, zg_T, zbI_ok, zbL_ok, zbN_ok, zite1, zite2, zite3, zem, Int.cast_ofNat_Int, and_self, and_true, true_and, or_true, true_or, or_self, ite_not, if_true, if_false, not_true_eq_false, not_false_eq_true]
/-- pointers stay where only what the table t names was touched -/
theorem zPC_t (t : Int → Int → Bool) (hd : zPCl.all (fun p => !(t p.1 p.2.1)) = true) {M M' : zM} (h : zPC M) (hM : ∀ r y, t r y = false → M' r y = M r y) : zPC M' := fun p hp => by
  have := List.all_eq_true.mp hd p hp
  rw [hM p.1 p.2.1 (by simpa using this)]
  exact h p hp
theorem zPR_t (t : Int → Int → Bool) (hd : zPRl.all (fun p => !(t p.1 p.2.1)) = true) {M M' : zM} (h : zPR M) (hM : ∀ r y, t r y = false → M' r y = M r y) : zPR M' := fun p hp => by
  have := List.all_eq_true.mp hd p hp
  rw [hM p.1 p.2.1 (by simpa using this)]
  exact h p hp
/-- three rows from c on, shifted by one behind p up to s -/
def zsh (M : zM) (c p s : Int) : zM := fun x y => if c ≤ x ∧ x ≤ c + 2 ∧ p < y ∧ y ≤ s then M x (y - 1) else M x y
theorem zsh_s {M : zM} {c p s : Int} (hp : p ≤ s) : zu (zu (zu (zsh M c p s) c p (M c (p - 1))) (c + 1) p (M (c + 1) (p - 1))) (c + 2) p (M (c + 2) (p - 1)) = zsh M c (p - 1) s := by
  funext x y
  simp only [zu_at, zsh]
  by_cases e1 : x = c + 2 ∧ y = p
  · obtain ⟨rfl, rfl⟩ := e1
    rw [if_pos ⟨rfl, rfl⟩, if_pos (by omega)]
  · rw [if_neg e1]
    by_cases e2 : x = c + 1 ∧ y = p
    · obtain ⟨rfl, rfl⟩ := e2
      rw [if_pos ⟨rfl, rfl⟩, if_pos (by omega)]
    · rw [if_neg e2]
      by_cases e3 : x = c ∧ y = p
      · obtain ⟨rfl, rfl⟩ := e3
        rw [if_pos ⟨rfl, rfl⟩, if_pos (by omega)]
      · rw [if_neg e3]
        by_cases e4 : c ≤ x ∧ x ≤ c + 2 ∧ p < y ∧ y ≤ s
        · rw [if_pos e4, if_pos (by omega)]
        · rw [if_neg e4, if_neg (by omega)]
theorem zsh_lt {M : zM} {c p s x y : Int} (h : y ≤ p) : zsh M c p s x y = M x y := by
  unfold zsh
  rw [if_neg (by omega)]
theorem zsh_r {M : zM} {c p s x y : Int} (h : x < c ∨ c + 2 < x) : zsh M c p s x y = M x y := by
  unfold zsh
  rw [if_neg (by omega)]
theorem zsh_in {M : zM} {c p s x y : Int} (h : c ≤ x ∧ x ≤ c + 2 ∧ p < y ∧ y ≤ s) : zsh M c p s x y = M x (y - 1) := by
  unfold zsh
  rw [if_pos h]
theorem zsh_0 {M : zM} {c s : Int} : zsh M c s s = M := by
  funext x y
  unfold zsh
  rw [if_neg (by omega)]
theorem zPC_sh {M : zM} {p s : Int} (h : zPC M) : zPC (zsh M 67 p s) := zPC_t (fun r _ => decide (67 ≤ r ∧ r ≤ 69)) (by decide +kernel) h (fun r y hr => zsh_r (by simp at hr; omega))
theorem zPR_sh {M : zM} {p s : Int} (h : zPR M) : zPR (zsh M 190 p s) := zPR_t (fun r _ => decide (190 ≤ r ∧ r ≤ 192)) (by decide +kernel) h (fun r y hr => zsh_r (by simp at hr; omega))
theorem e25 {M : zM} {n m : Nat} {i u x y : Int} (r0 : zPC M) (hi : 0 ≤ i ∧ i < 12) : zex 25 0 [] [(2, 65), (0, i), (0, u), (0, x), (0, y)] M (zKs, n, m) = some ((9, 0), zu (zu (zu M 67 i u) 68 i x) 69 i y, (zKs, n, m)) := by
  simp (disch := omega) only [q25_0, q25_12, q25_19, q25_26, zk_65, zk_66, zk_67, zk_68, zk_69, zp_65_3 r0, zp_66_0 r0, zp_66_1 r0, zp_66_2 r0, zun, zun2, zg_pos, if_neg, ↓reduceIte, Int.reduceEq, Int.reduceLE, Int.reduceLT, Int.reduceAdd, Int.reduceSub, Int.reduceMul, Int.reduceNeg, zg_T, zbI_ok, zbL_ok, zbN_ok, zite1, zite2, zite3, zem, Int.cast_ofNat_Int, and_self, and_true, true_and, or_true, true_or, or_self, ite_not, if_true, if_false, not_true_eq_false, not_false_eq_true]
theorem e17_l {M : zM} {n m : Nat} {u x y s : Int} (r0 : zPC M) (hs : s < 12) : ∀ (q : Nat) (c : Int), c = q → c ≤ s → ∃ p : Int, 0 ≤ p ∧ p ≤ c ∧ (∀ j, p ≤ j → j < c → u < M 67 j) ∧ (p = 0 ∨ M 67 (p - 1) ≤ u) ∧ zex 17 13 [] [(2, 65), (0, u), (0, x), (0, y), (0, c), (0, c - 1)] (zsh M 67 c s) (zKs, n, m) = zex 17 50 [] [(2, 65), (0, u), (0, x), (0, y), (0, p), (0, p - 1)] (zsh M 67 p s) (zKs, n, m)
  | 0, c, hc, h => ⟨0, by omega, by omega, fun j h1 h2 => by omega, .inl rfl, by
      rw [q17_13, if_pos (by omega), show c = 0 by omega]⟩
  | q + 1, c, hc, h => by
    have k0 := zPC_sh (p := c) (s := s) r0
    have e1 : ∀ r, zsh M 67 c s r (c - 1) = M r (c - 1) := fun r => zsh_lt (by omega)
    by_cases hu : M 67 (c - 1) ≤ u
    · refine ⟨c, by omega, by omega, fun j h1 h2 => by omega, .inr hu, ?_⟩
      rw [q17_13, if_neg (by omega)]
      simp (disch := omega) only [zk_65, zk_66, zk_67, zp_65_3 k0, zp_66_0 k0, e1, hu, zg_pos, ↓reduceIte, Int.reduceEq, Int.reduceLE, Int.reduceLT, Int.reduceAdd, Int.reduceSub, Int.reduceMul, Int.reduceNeg, zg_T, zbI_ok, zbL_ok, zbN_ok, zite1, zite2, zite3, zem, Int.cast_ofNat_Int, and_self, and_true, true_and, or_true, true_or, or_self, ite_not, if_true, if_false, not_true_eq_false, not_false_eq_true]
    · obtain ⟨p, p1, p2, p3, p4, p5⟩ := e17_l (n := n) (m := m) (u := u) (x := x) (y := y) r0 hs q (c - 1) (by omega) (by omega)
      refine ⟨p, p1, by omega, fun j h1 h2 => ?_, p4, ?_⟩
      · by_cases hj : j = c - 1
        · subst hj; omega
        · exact p3 j h1 (by omega)
      · have e2 : c - 1 + 1 = c := by omega
        have e3 : c - 1 + -1 = c - 1 - 1 := by omega
        have e4 := zsh_s (M := M) (c := 67) h
        simp only [Int.reduceAdd] at e4
        rw [← p5, q17_13, if_neg (by omega)]
        simp (disch := omega) only [zk_65, zk_66, zk_67, zk_68, zk_69, zp_65_3 k0, zp_66_0 k0, zp_66_1 k0, zp_66_2 k0, e1, e2, e3, hu, e25 k0, e4, zg_pos, zI, ↓reduceIte, Int.reduceEq, Int.reduceLE, Int.reduceLT, Int.reduceAdd, Int.reduceSub, Int.reduceMul, Int.reduceNeg, zg_T, zbI_ok, zbL_ok, zbN_ok, zite1, zite2, zite3, zem, Int.cast_ofNat_Int, and_self, and_true, true_and, or_true, true_or, or_self, ite_not, if_true, if_false, not_true_eq_false, not_false_eq_true]
theorem e190_l {M : zM} {n m : Nat} {u x y s : Int} (r1 : zPR M) (hs : s < 12) : ∀ (q : Nat) (c : Int), c = q → c ≤ s → ∃ p : Int, 0 ≤ p ∧ p ≤ c ∧ (∀ j, p ≤ j → j < c → u < M 190 j) ∧ (p = 0 ∨ M 190 (p - 1) ≤ u) ∧ zex 190 20 [] [(2, 178), (0, u), (0, x), (0, y), (0, c)] (zsh M 190 c s) (zKs, n, m) = zex 190 62 [] [(2, 178), (0, u), (0, x), (0, y), (0, p)] (zsh M 190 p s) (zKs, n, m)
  | 0, c, hc, h => ⟨0, by omega, by omega, fun j h1 h2 => by omega, .inl rfl, by
      rw [q190_20, if_pos (by omega), show c = 0 by omega]⟩
  | q + 1, c, hc, h => by
    have k0 := zPR_sh (p := c) (s := s) r1
    have e1 : ∀ r, zsh M 190 c s r (c - 1) = M r (c - 1) := fun r => zsh_lt (by omega)
    by_cases hu : M 190 (c - 1) ≤ u
    · refine ⟨c, by omega, by omega, fun j h1 h2 => by omega, .inr hu, ?_⟩
      rw [q190_20, if_neg (by omega)]
      simp (disch := omega) only [zk_178, zk_190, zp_178_22 k0, e1, hu, zg_pos, zI, ↓reduceIte, Int.reduceEq, Int.reduceLE, Int.reduceLT, Int.reduceAdd, Int.reduceSub, Int.reduceMul, Int.reduceNeg, zg_T, zbI_ok, zbL_ok, zbN_ok, zite1, zite2, zite3, zem, Int.cast_ofNat_Int, and_self, and_true, true_and, or_true, true_or, or_self, ite_not, if_true, if_false, not_true_eq_false, not_false_eq_true]
    · obtain ⟨p, p1, p2, p3, p4, p5⟩ := e190_l (n := n) (m := m) (u := u) (x := x) (y := y) r1 hs q (c - 1) (by omega) (by omega)
      refine ⟨p, p1, by omega, fun j h1 h2 => ?_, p4, ?_⟩
      · by_cases hj : j = c - 1
        · subst hj; omega
        · exact p3 j h1 (by omega)
      · have e3 : c + -1 = c - 1 := by omega
        have e4 := zsh_s (M := M) (c := 190) h
        simp only [Int.reduceAdd] at e4
        rw [← p5, q190_20, if_neg (by omega)]
        simp (disch := omega) only [q190_40, q190_50, q190_60, zk_178, zk_190, zk_191, zk_192, zp_178_22 k0, zp_178_23 k0, zp_178_24 k0, e1, e3, hu, e4, zun, zg_pos, zI, ↓reduceIte, Int.reduceEq, Int.reduceLE, Int.reduceLT, Int.reduceAdd, Int.reduceSub, Int.reduceMul, Int.reduceNeg, zg_T, zbI_ok, zbL_ok, zbN_ok, zite1, zite2, zite3, zem, Int.cast_ofNat_Int, and_self, and_true, true_and, or_true, true_or, or_self, ite_not, if_true, if_false, not_true_eq_false, not_false_eq_true]
theorem o_spot {q : Int} {M P : zM} (h : zRel q M P) (n m : Nat) (u x y : Int) : zOpn q 113 190 [(0, u), (0, x), (0, y)] [(0, u), (0, x), (0, y), (9, 0)] M P n m := by
  obtain ⟨⟨r0, r1⟩, rc, rh, rp, rb, rs, rw0, rx, ro, rk, rt, rr⟩ := id h
  obtain ⟨x1, x2, x3, x4⟩ := id ro
  by_cases hu : 1 ≤ u ∧ u ≤ 4000
  · by_cases hc : (0 ≤ x ∧ x ≤ 31) ∧ 0 ≤ y ∧ y ≤ 31
    · by_cases hf : P 178 21 < 12
      · have hf2 : ¬ P 178 21 = 12 := by omega
        obtain ⟨p, p1, p2, p3, p4, p5⟩ := e17_l (n := n) (m := m) (u := u) (x := x) (y := y) r0 hf (P 178 21).toNat (P 178 21) (by omega) (by omega)
        obtain ⟨p', p1', p2', p3', p4', p5'⟩ := e190_l (n := n) (m := m) (u := u) (x := x) (y := y) r1 hf (P 178 21).toNat (P 178 21) (by omega) (by omega)
        have hp : p' = p := by
          by_cases e : p < p'
          · have f1 := p3 (p' - 1) (by omega) (by omega)
            rw [(x3 (p' - 1) (by omega) (by omega)).1] at f1
            omega
          · by_cases e : p' < p
            · have f1 := p3' (p - 1) (by omega) (by omega)
              have f2 := (x3 (p - 1) (by omega) (by omega)).1
              omega
            · omega
        subst hp
        rw [zsh_0] at p5 p5'
        have k0 := zPC_sh (p := p') (s := P 178 21) r0
        have s1 : ∀ r z, (r < 67 ∨ 69 < r) → zsh M 67 p' (P 178 21) r z = M r z := fun r z hr => zsh_r (by omega)
        have s2 : ∀ r z, (r < 190 ∨ 192 < r) → zsh P 190 p' (P 178 21) r z = P r z := fun r z hr => zsh_r (by omega)
        generalize hM1 : zu (zu (zu (zu (zsh M 67 p' (P 178 21)) 67 p' u) 68 p' x) 69 p' y) 65 2 (P 178 21 + 1) = M1
        generalize hP1 : zu (zu (zu (zu (zsh P 190 p' (P 178 21)) 190 p' u) 191 p' x) 192 p' y) 178 21 (P 178 21 + 1) = P1
        have u1 : ∀ r z, (r < 65 ∨ r = 66 ∨ 69 < r ∨ (r = 65 ∧ z ≠ 2)) → M1 r z = M r z := by
          intro r z hr
          rw [← hM1]
          by_cases e : r = 65
          · rw [zun2 (by omega), zun (by omega), zun (by omega), zun (by omega), s1 _ _ (by omega)]
          · rw [zun e, zun (by omega), zun (by omega), zun (by omega), s1 _ _ (by omega)]
        have u2 : ∀ r z, (r < 178 ∨ (178 < r ∧ r < 190) ∨ 192 < r ∨ (r = 178 ∧ z ≠ 21)) → P1 r z = P r z := by
          intro r z hr
          rw [← hP1]
          by_cases e : r = 178
          · rw [zun2 (by omega), zun (by omega), zun (by omega), zun (by omega), s2 _ _ (by omega)]
          · rw [zun e, zun (by omega), zun (by omega), zun (by omega), s2 _ _ (by omega)]
        have w0 : M1 65 2 = P 178 21 + 1 ∧ P1 178 21 = P 178 21 + 1 := by rw [← hM1, ← hP1, zus, zus]; exact ⟨rfl, rfl⟩
        have w1 : ∀ i, i < p' → M1 67 i = M 67 i ∧ M1 68 i = M 68 i ∧ M1 69 i = M 69 i ∧ P1 190 i = P 190 i ∧ P1 191 i = P 191 i ∧ P1 192 i = P 192 i := by
          intro i hi
          rw [← hM1, ← hP1]
          simp (disch := omega) only [zun, zun2, zsh_lt]
          exact ⟨trivial, trivial, trivial, trivial, trivial, trivial⟩
        have w2 : M1 67 p' = u ∧ M1 68 p' = x ∧ M1 69 p' = y ∧ P1 190 p' = u ∧ P1 191 p' = x ∧ P1 192 p' = y := by
          rw [← hM1, ← hP1]
          simp (disch := omega) only [zun, zus]
          exact ⟨trivial, trivial, trivial, trivial, trivial, trivial⟩
        have w3 : ∀ i, p' < i → i ≤ P 178 21 → M1 67 i = M 67 (i - 1) ∧ M1 68 i = M 68 (i - 1) ∧ M1 69 i = M 69 (i - 1) ∧ P1 190 i = P 190 (i - 1) ∧ P1 191 i = P 191 (i - 1) ∧ P1 192 i = P 192 (i - 1) := by
          intro i hi hj
          rw [← hM1, ← hP1]
          simp (disch := omega) only [zun, zun2, zsh_in]
          exact ⟨trivial, trivial, trivial, trivial, trivial, trivial⟩
        refine ⟨P 178 21 + 1, M1, P1, ?_, fun r z hr => u1 r z (by omega), ?_, fun r z hr => u2 r z (by omega), ⟨zPC_t (fun r z => decide (67 ≤ r ∧ r ≤ 69) || (decide (r = 65) && decide (z = 2))) (by decide +kernel) r0 (fun r z hr => u1 r z (by simp at hr; omega)), zPR_t (fun r z => decide (190 ≤ r ∧ r ≤ 192) || (decide (r = 178) && decide (z = 21))) (by decide +kernel) r1 (fun r z hr => u2 r z (by simp at hr; omega))⟩, rc.of (by (intros; first | rfl | (simp (disch := omega) only [u1, u2, and_self]))) (by (intros; first | rfl | (simp (disch := omega) only [u1, u2, and_self]))) (by (intros; first | rfl | (simp (disch := omega) only [u1, u2, and_self]))), (by (simp (disch := omega) only [u1, u2]; exact rh)), rp.of (by (intros; first | rfl | (simp (disch := omega) only [u1, u2, and_self]))) (by (intros; first | rfl | (simp (disch := omega) only [u1, u2, and_self]))) (by (intros; first | rfl | (simp (disch := omega) only [u1, u2, and_self]))) (by (intros; first | rfl | (simp (disch := omega) only [u1, u2, and_self]))), rb.of (by (intros; first | rfl | (simp (disch := omega) only [u1, u2, and_self]))) (by (intros; first | rfl | (simp (disch := omega) only [u1, u2, and_self]))) (by (intros; first | rfl | (simp (disch := omega) only [u1, u2, and_self]))), rs.of (by (intros; first | rfl | (simp (disch := omega) only [u1, u2, and_self]))) (by (intros; first | rfl | (simp (disch := omega) only [u1, u2, and_self]))) (by (intros; first | rfl | (simp (disch := omega) only [u1, u2, and_self]))) (by (intros; first | rfl | (simp (disch := omega) only [u1, u2, and_self]))), rw0.of (by (intros; first | rfl | (simp (disch := omega) only [u1, u2, and_self]))) (by (intros; first | rfl | (simp (disch := omega) only [u1, u2, and_self]))) (by (intros; first | rfl | (simp (disch := omega) only [u1, u2, and_self]))) (by (intros; first | rfl | (simp (disch := omega) only [u1, u2, and_self]))) (by (intros; first | rfl | (simp (disch := omega) only [u1, u2, and_self]))) (by (intros; first | rfl | (simp (disch := omega) only [u1, u2, and_self]))), rx.of (by (intros; first | rfl | (simp (disch := omega) only [u1, u2, and_self]))) (by (intros; first | rfl | (simp (disch := omega) only [u1, u2, and_self]))) (by (intros; first | rfl | (simp (disch := omega) only [u1, u2, and_self]))) (by (intros; first | rfl | (simp (disch := omega) only [u1, u2, and_self]))), ?_, rk.of (by (intros; first | rfl | (simp (disch := omega) only [u1, u2, and_self]))) (by (intros; first | rfl | (simp (disch := omega) only [u1, u2, and_self]))) (by (intros; first | rfl | (simp (disch := omega) only [u1, u2, and_self]))) (by (intros; first | rfl | (simp (disch := omega) only [u1, u2, and_self]))) (by (intros; first | rfl | (simp (disch := omega) only [u1, u2, and_self]))), rt.of (by (intros; first | rfl | (simp (disch := omega) only [u1, u2, and_self]))) (by (intros; first | rfl | (simp (disch := omega) only [u1, u2, and_self]))), (by (simp (disch := omega) only [u1, u2]; exact rr))⟩
        · rw [← hM1]
          simp (disch := omega) only [q113_0, e133, e135, hu, hc, x1, hf, q17_0, p5, q17_50, e25 k0, s1, zk_1, zk_65, zp_1_7 r0, zun, zus, zg_pos, zI, ↓reduceIte, Int.reduceEq, Int.reduceLE, Int.reduceLT, Int.reduceAdd, Int.reduceSub, Int.reduceMul, Int.reduceNeg, zg_T, zbI_ok, zbL_ok, zbN_ok, zite1, zite2, zite3, zem, Int.cast_ofNat_Int, and_self, and_true, true_and, or_true, true_or, or_self, ite_not, if_true, if_false, not_true_eq_false, not_false_eq_true]
        · rw [← hP1]
          simp (disch := omega) only [q190_0, e143, e153, hu, hc, hf2, p5', q190_62, q190_67, q190_72, q190_77, q190_83, s2, zk_178, zk_190, zk_191, zk_192, zp_178_22 r1, zp_178_23 r1, zp_178_24 r1, zun, zus, zg_pos, zI, ↓reduceIte, Int.reduceEq, Int.reduceLE, Int.reduceLT, Int.reduceAdd, Int.reduceSub, Int.reduceMul, Int.reduceNeg, zg_T, zbI_ok, zbL_ok, zbN_ok, zite1, zite2, zite3, zem, Int.cast_ofNat_Int, and_self, and_true, true_and, or_true, true_or, or_self, ite_not, if_true, if_false, not_true_eq_false, not_false_eq_true]
        · refine ⟨by rw [w0.1, w0.2], by rw [w0.2]; omega, fun i hi hj => ?_, fun i j hi hij hj => ?_⟩
          · rw [w0.2] at hj
            by_cases e1 : i < p'
            · obtain ⟨a1, a2, a3, a4, a5, a6⟩ := w1 i e1
              rw [a1, a2, a3, a4, a5, a6]
              exact x3 i hi (by omega)
            · by_cases e2 : i = p'
              · subst e2
                obtain ⟨a1, a2, a3, a4, a5, a6⟩ := w2
                rw [a1, a2, a3, a4, a5, a6]
                exact ⟨rfl, rfl, rfl, hu, hc.1, hc.2⟩
              · obtain ⟨a1, a2, a3, a4, a5, a6⟩ := w3 i (by omega) (by omega)
                rw [a1, a2, a3, a4, a5, a6]
                exact x3 (i - 1) (by omega) (by omega)
          · rw [w0.2] at hj
            by_cases e1 : j < p'
            · rw [(w1 j e1).2.2.2.1, (w1 i (by omega)).2.2.2.1]
              exact x4 i j hi hij (by omega)
            · by_cases e2 : j = p'
              · subst e2
                rw [w2.2.2.2.1]
                by_cases e3 : i = j
                · subst e3
                  rw [w2.2.2.2.1]
                  omega
                · rw [(w1 i (by omega)).2.2.2.1]
                  have := x4 i (j - 1) hi (by omega) (by omega)
                  omega
              · rw [(w3 j (by omega) (by omega)).2.2.2.1]
                by_cases e3 : i < p'
                · rw [(w1 i e3).2.2.2.1]
                  exact x4 i (j - 1) hi (by omega) (by omega)
                · by_cases e4 : i = p'
                  · subst e4
                    rw [w2.2.2.2.1]
                    have := p3' (j - 1) (by omega) (by omega)
                    omega
                  · rw [(w3 i (by omega) (by omega)).2.2.2.1]
                    exact x4 (i - 1) (j - 1) (by omega) (by omega) (by omega)
      · have hf2 : P 178 21 = 12 := by omega
        refine ⟨-2, M, P, ?_, zCf.rfl, ?_, zRf.rfl, h⟩
        · simp (disch := omega) only [q113_0, e133, e135, hu, hc, x1, hf, zk_1, zk_65, zp_1_7 r0, zg_pos, ↓reduceIte, Int.reduceEq, Int.reduceLE, Int.reduceLT, Int.reduceAdd, Int.reduceSub, Int.reduceMul, Int.reduceNeg, zg_T, zbI_ok, zbL_ok, zbN_ok, zite1, zite2, zite3, zem, Int.cast_ofNat_Int, and_self, and_true, true_and, or_true, true_or, or_self, ite_not, if_true, if_false, not_true_eq_false, not_false_eq_true]
        · simp (disch := omega) only [q190_0, e143, e153, hu, hc, hf2, zk_178, zg_pos, ↓reduceIte, Int.reduceEq, Int.reduceLE, Int.reduceLT, Int.reduceAdd, Int.reduceSub, Int.reduceMul, Int.reduceNeg, zg_T, zbI_ok, zbL_ok, zbN_ok, zite1, zite2, zite3, zem, Int.cast_ofNat_Int, and_self, and_true, true_and, or_true, true_or, or_self, ite_not, if_true, if_false, not_true_eq_false, not_false_eq_true]
    · refine ⟨-1, M, P, ?_, zCf.rfl, ?_, zRf.rfl, h⟩
      · simp only [q113_0, q113_9, e133, e135, hu, hc, ↓reduceIte, Int.reduceEq, Int.reduceLE, Int.reduceLT, Int.reduceAdd, Int.reduceSub, Int.reduceMul, Int.reduceNeg, zg_T, zbI_ok, zbL_ok, zbN_ok, zite1, zite2, zite3, zem, Int.cast_ofNat_Int, and_self, and_true, true_and, or_true, true_or, or_self, ite_not, if_true, if_false, not_true_eq_false, not_false_eq_true]
      · simp only [q190_0, q190_9, e143, e153, hu, hc, ↓reduceIte, Int.reduceEq, Int.reduceLE, Int.reduceLT, Int.reduceAdd, Int.reduceSub, Int.reduceMul, Int.reduceNeg, zg_T, zbI_ok, zbL_ok, zbN_ok, zite1, zite2, zite3, zem, Int.cast_ofNat_Int, and_self, and_true, true_and, or_true, true_or, or_self, ite_not, if_true, if_false, not_true_eq_false, not_false_eq_true]
  · refine ⟨-1, M, P, ?_, zCf.rfl, ?_, zRf.rfl, h⟩
    · simp only [q113_0, q113_9, e133, hu, ↓reduceIte, Int.reduceEq, Int.reduceLE, Int.reduceLT, Int.reduceAdd, Int.reduceSub, Int.reduceMul, Int.reduceNeg, zg_T, zbI_ok, zbL_ok, zbN_ok, zite1, zite2, zite3, zem, Int.cast_ofNat_Int, and_self, and_true, true_and, or_true, true_or, or_self, ite_not, if_true, if_false, not_true_eq_false, not_false_eq_true]
    · simp only [q190_0, q190_9, e143, hu, ↓reduceIte, Int.reduceEq, Int.reduceLE, Int.reduceLT, Int.reduceAdd, Int.reduceSub, Int.reduceMul, Int.reduceNeg, zg_T, zbI_ok, zbL_ok, zbN_ok, zite1, zite2, zite3, zem, Int.cast_ofNat_Int, and_self, and_true, true_and, or_true, true_or, or_self, ite_not, if_true, if_false, not_true_eq_false, not_false_eq_true]
