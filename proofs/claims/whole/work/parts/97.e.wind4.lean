/-! WINDINGS: moves -/
theorem zfcu.pc {M M1 : zM} (h : zfcu M M1) (r0 : zPC M) : zPC M1 := zPC_t (fun r y => decide ((r = 47 ∧ (y = 4 ∨ y = 5)) ∨ (53 ≤ r ∧ r ≤ 64 ∧ ¬ ((r = 53 ∨ r = 57 ∨ r = 61) ∧ y ≠ 0)))) (by decide +kernel) r0 (fun r y hr => h r y (by simp at hr; omega))
theorem zfpu.pr {P P1 : zM} (h : zfpu P P1) (r1 : zPR P) : zPR P1 := zPR_t (fun r y => decide ((r = 178 ∧ (y = 63 ∨ y = 64)) ∨ (217 ≤ r ∧ r ≤ 219))) (by decide +kernel) r1 (fun r y hr => h r y (by simp at hr; omega))
/-- what a move changes of the class's -/
def zfm (M M1 : zM) : Prop := ∀ r y, ((r ≠ 47 ∨ y < 4 ∨ 8 < y) ∧ (r < 53 ∨ 64 < r ∨ ((r = 53 ∨ r = 57 ∨ r = 61) ∧ y ≠ 0))) → M1 r y = M r y
theorem zfm.pc {M M1 : zM} (h : zfm M M1) (r0 : zPC M) : zPC M1 := zPC_t (fun r y => decide ((r = 47 ∧ 4 ≤ y ∧ y ≤ 8) ∨ (53 ≤ r ∧ r ≤ 64 ∧ ¬ ((r = 53 ∨ r = 57 ∨ r = 61) ∧ y ≠ 0)))) (by decide +kernel) r0 (fun r y hr => h r y (by simp at hr; omega))
theorem zfm.trans {M M1 M2 : zM} (h1 : zfm M M1) (h2 : zfm M1 M2) : zfm M M2 := fun r y hr => (h2 r y hr).trans (h1 r y hr)
theorem zfpu.trans {M M1 M2 : zM} (h1 : zfpu M M1) (h2 : zfpu M1 M2) : zfpu M M2 := fun r y hr => (h2 r y hr).trans (h1 r y hr)
theorem zfcu.m {M M1 : zM} (h : zfcu M M1) : zfm M M1 := fun r y hr => h r y (by omega)
/-- where the way stands, on either side -/
def zSt (M P : zM) (s : Int) : Prop := zfr (P 185) (M 47 6) (M 47 7) ∧ (0 ≤ M 47 8 ∧ M 47 8 ≤ 3) ∧ s = 4 * (32 * M 47 7 + M 47 6) + M 47 8 ∧ M 47 9 = 4 * P 178 5
theorem zRn.of {M P M1 : zM} (h : zRn M P) (u1 : ∀ r y, 53 ≤ r → r ≤ 64 → M1 r y = M r y) (u2 : M1 47 4 = M 47 4) (u3 : M1 47 5 = M 47 5) : zRn M1 P := ⟨by rw [u3]; exact h.1, by rw [u2]; exact h.2.1, h.2.2.of u1 (fun _ _ _ _ => rfl) rfl⟩
theorem e186R {P : zM} (n m : Nat) {f : Int} (hh : 1 ≤ P 178 5 ∧ P 178 5 ≤ 8) : zex 186 0 [] [(2, 178), (0, f)] P (zKs, n, m) = zbN (zex 185 0 [] [(2, 178), (0, if f = 0 then 0 else 1), (0, if f = 0 then 1 else 0), (0, 2), (0, 4 * P 178 5)] P (zKs, n, m)) (fun M X => some ((9, 0), M, X)) := by
  by_cases e : f = 0
  · rw [if_pos e, if_pos e, q186_0, if_pos e, q186_6, if_pos e, q186_11, zg_pos (zk_178 n m), zg_pos (by unfold zI; omega), zg_pos (zk_178 n m)]
  · rw [if_neg e, if_neg e, q186_0, if_neg e, q186_6, if_neg e, q186_11, zg_pos (zk_178 n m), zg_pos (by unfold zI; omega), zg_pos (zk_178 n m)]
theorem e89A {M P : zM} (n m : Nat) {s k : Int} (r0 : zPC M) (r1 : zPR P) (R : zRn M P) (S : zSt M P s) (hh : 1 ≤ P 178 5 ∧ P 178 5 ≤ 8) (hk : k = 0 ∨ k = 1) (hv : zmv (P 185) s k ≠ -1) (hb : 0 ≤ M 47 5 ∧ M 47 5 ≤ 1000000000) : ∃ M1 P1, zex 89 0 [] [(2, 47), (0, k)] M (zKs, n, m) = some ((9, 0), M1, (zKs, n, m)) ∧ zex 185 0 [] [(2, 178), (0, k), (0, k), (0, 2), (0, 1)] P (zKs, n, m) = some ((9, 0), P1, (zKs, n, m)) ∧ zRn M1 P1 ∧ zSt M1 P1 (zmv (P 185) s k) ∧ M1 47 5 = M 47 5 + 1 ∧ zfm M M1 ∧ zfpu P P1 := by
  obtain ⟨s1, s2, s3, s4⟩ := S
  obtain ⟨M1, P1, a1, a2, a3, a4, a5, a6⟩ := e90R n m (l := k) (r := k) (s := 2) (u := 1) r0 r1 R (by omega) (by omega) (by omega) (by omega) hb
  have r0' := a5.pc r0
  have b6 : M1 47 6 = M 47 6 := a5 _ _ (by omega)
  have b7 : M1 47 7 = M 47 7 := a5 _ _ (by omega)
  have b8 : M1 47 8 = M 47 8 := a5 _ _ (by omega)
  have b9 : M1 47 9 = M 47 9 := a5 _ _ (by omega)
  obtain ⟨⟨x1, x2⟩, x3, x4⟩ := zax_le (M 47 8)
  obtain ⟨f1, f2, f3⟩ := id s1
  have l2 : ∀ N : zM, zsl N 2 = 4 := fun _ => rfl
  have l3 : ∀ N : zM, zsl N 3 = 4 := fun _ => rfl
  have z2 : ∀ N : zM, zsv N 2 (M 47 8) = zax (M 47 8) := fun N => (zsv2 s2).1
  have z3 : ∀ N : zM, zsv N 3 (M 47 8) = zay (M 47 8) := fun N => (zsv2 s2).2
  have q4 : M 47 8 % 4 = M 47 8 := by omega
  have d1 : s / 4 % 32 = M 47 6 := by omega
  have d2 : s / 4 / 32 = M 47 7 := by omega
  have d3 : s % 4 = M 47 8 := by omega
  have mv : ∀ sg, zmd k = sg → zfr (P 185) (M 47 6 + sg * zax (M 47 8)) (M 47 7 + sg * zay (M 47 8)) ∧ zmv (P 185) s k = 4 * (32 * (M 47 7 + sg * zay (M 47 8)) + (M 47 6 + sg * zax (M 47 8))) + M 47 8 := fun sg hs => by
    unfold zmv at hv ⊢
    rw [if_pos (by omega), d1, d2, d3, hs] at hv ⊢
    by_cases f : zfr (P 185) (M 47 6 + sg * zax (M 47 8)) (M 47 7 + sg * zay (M 47 8))
    · rw [if_pos f]; exact ⟨f, rfl⟩
    · rw [if_neg f] at hv; exact absurd rfl hv
  have e185 : P1 185 = P 185 := funext fun t => a6 _ _ (by omega)
  have e5 : P1 178 5 = P 178 5 := a6 _ _ (by omega)
  have fin : ∀ x' y', zfr (P 185) x' y' ∧ zmv (P 185) s k = 4 * (32 * y' + x') + M 47 8 → zRn (zu (zu M1 47 6 x') 47 7 y') P1 ∧ zSt (zu (zu M1 47 6 x') 47 7 y') P1 (zmv (P 185) s k) ∧ zu (zu M1 47 6 x') 47 7 y' 47 5 = M 47 5 + 1 ∧ zfm M (zu (zu M1 47 6 x') 47 7 y') ∧ zfpu P P1 := fun x' y' h => by
    refine ⟨a3.of (fun r y _ _ => by rw [zu_nq (by omega), zu_nq (by omega)]) (by rw [zu_nq (by omega), zu_nq (by omega)]) (by rw [zu_nq (by omega), zu_nq (by omega)]), ⟨?_, ?_, ?_, ?_⟩, by rw [zu_nq (by omega), zu_nq (by omega)]; exact a4, fun r y hr => by rw [zu_nq (by omega), zu_nq (by omega), a5 r y (by omega)], a6⟩
    · rw [zu_nq (by omega), zus, zus, e185]; exact h.1
    · rw [zu_nq (by omega), zu_nq (by omega), b8]; exact s2
    · rw [zu_nq (x := 47) (y := 6) (by omega), zus, zus, zu_nq (by omega), zu_nq (by omega), b8]; exact h.2
    · rw [zu_nq (by omega), zu_nq (by omega), b9, e5]; exact s4
  rcases hk with rfl | rfl
  · obtain ⟨g1, g2⟩ := mv 1 rfl
    rw [Int.one_mul, Int.one_mul] at g1 g2
    refine ⟨_, P1, ?_, a2, fin (M 47 6 + zax (M 47 8)) (M 47 7 + zay (M 47 8)) ⟨g1, g2⟩⟩
    simp (disch := omega) only [q89_0, q89_19, q89_30, q89_91, a1, b6, b7, b8, q4, l2, l3, z2, z3, zk_47, zun2, zg_pos, zI, ↓reduceIte, Int.reduceEq, Int.reduceLE, Int.reduceLT, Int.reduceAdd, Int.reduceSub, Int.reduceMul, Int.reduceNeg, zg_T, zbI_ok, zbL_ok, zbN_ok, zite1, zite2, zite3, zem, Int.cast_ofNat_Int, and_self, and_true, true_and, or_true, true_or, or_self, ite_not, if_true, if_false, not_true_eq_false, not_false_eq_true]
  · obtain ⟨g1, g2⟩ := mv (-1) rfl
    rw [show M 47 6 + -1 * zax (M 47 8) = M 47 6 - zax (M 47 8) by omega, show M 47 7 + -1 * zay (M 47 8) = M 47 7 - zay (M 47 8) by omega] at g1 g2
    refine ⟨_, P1, ?_, a2, fin (M 47 6 - zax (M 47 8)) (M 47 7 - zay (M 47 8)) ⟨g1, g2⟩⟩
    simp (disch := omega) only [q89_0, q89_48, q89_59, q89_91, a1, b6, b7, b8, q4, l2, l3, z2, z3, zk_47, zun2, zg_pos, zI, ↓reduceIte, Int.reduceEq, Int.reduceLE, Int.reduceLT, Int.reduceAdd, Int.reduceSub, Int.reduceMul, Int.reduceNeg, zg_T, zbI_ok, zbL_ok, zbN_ok, zite1, zite2, zite3, zem, Int.cast_ofNat_Int, and_self, and_true, true_and, or_true, true_or, or_self, ite_not, if_true, if_false, not_true_eq_false, not_false_eq_true]
theorem e89T {M P : zM} (n m : Nat) {s k : Int} (r0 : zPC M) (r1 : zPR P) (R : zRn M P) (S : zSt M P s) (hh : 1 ≤ P 178 5 ∧ P 178 5 ≤ 8) (hk : k = 2 ∨ k = 3) (hb : 0 ≤ M 47 5 ∧ M 47 5 ≤ 1000000000) : ∃ M1 P1, zex 89 0 [] [(2, 47), (0, k)] M (zKs, n, m) = some ((9, 0), M1, (zKs, n, m)) ∧ zex 186 0 [] [(2, 178), (0, if k = 2 then 1 else 0)] P (zKs, n, m) = some ((9, 0), P1, (zKs, n, m)) ∧ zRn M1 P1 ∧ zSt M1 P1 (zmv (P 185) s k) ∧ M1 47 5 = M 47 5 + 4 * P 178 5 ∧ zfm M M1 ∧ zfpu P P1 := by
  obtain ⟨s1, s2, s3, s4⟩ := S
  obtain ⟨f1, f2, f3⟩ := id s1
  obtain ⟨M1, P1, a1, a2, a3, a4, a5, a6⟩ := e90R n m (l := if k = 2 then 1 else 0) (r := if k = 2 then 0 else 1) (s := 2) (u := 4 * P 178 5) r0 r1 R (by split <;> omega) (by split <;> omega) (by omega) (by omega) hb
  have b6 : M1 47 6 = M 47 6 := a5 _ _ (by omega)
  have b7 : M1 47 7 = M 47 7 := a5 _ _ (by omega)
  have b8 : M1 47 8 = M 47 8 := a5 _ _ (by omega)
  have b9 : M1 47 9 = M 47 9 := a5 _ _ (by omega)
  have e185 : P1 185 = P 185 := funext fun t => a6 _ _ (by omega)
  have e5 : P1 178 5 = P 178 5 := a6 _ _ (by omega)
  have R186 : zex 186 0 [] [(2, 178), (0, if k = 2 then 1 else 0)] P (zKs, n, m) = some ((9, 0), P1, (zKs, n, m)) := by
    rw [e186R n m hh]
    rcases hk with rfl | rfl
    · rw [if_pos rfl, if_neg (by omega), if_neg (by omega)]
      rw [if_pos rfl, if_pos rfl] at a2
      rw [a2, zbN_ok]
    · rw [show (if (3 : Int) = 2 then (1 : Int) else 0) = 0 from if_neg (by omega), if_pos rfl, if_pos rfl]
      rw [if_neg (by omega), if_neg (by omega)] at a2
      rw [a2, zbN_ok]
  have fin : ∀ q', (0 ≤ q' ∧ q' ≤ 3) ∧ zmv (P 185) s k = 4 * (32 * M 47 7 + M 47 6) + q' → zRn (zu M1 47 8 q') P1 ∧ zSt (zu M1 47 8 q') P1 (zmv (P 185) s k) ∧ zu M1 47 8 q' 47 5 = M 47 5 + 4 * P 178 5 ∧ zfm M (zu M1 47 8 q') ∧ zfpu P P1 := fun q' h => by
    refine ⟨a3.of (fun r y _ _ => by rw [zu_nq (by omega)]) (by rw [zu_nq (by omega)]) (by rw [zu_nq (by omega)]), ⟨?_, ?_, ?_, ?_⟩, by rw [zu_nq (by omega)]; exact a4, fun r y hr => by rw [zu_nq (by omega), a5 r y (by omega)], a6⟩
    · rw [zu_nq (by omega), zu_nq (by omega), e185, b6, b7]; exact s1
    · rw [zus]; exact h.1
    · rw [zu_nq (by omega), zu_nq (by omega), zus, b6, b7]; exact h.2
    · rw [zu_nq (by omega), b9, e5]; exact s4
  rcases hk with rfl | rfl
  · rw [if_pos rfl, if_pos rfl] at a1
    refine ⟨_, P1, ?_, R186, fin ((M 47 8 + 1) % 4) ⟨by omega, ?_⟩⟩
    · simp (disch := omega) only [q89_0, q89_75, q89_91, s4, a1, b8, zk_47, zun2, zg_pos, zI, ↓reduceIte, Int.reduceEq, Int.reduceLE, Int.reduceLT, Int.reduceAdd, Int.reduceSub, Int.reduceMul, Int.reduceNeg, zg_T, zbI_ok, zbL_ok, zbN_ok, zite1, zite2, zite3, zem, Int.cast_ofNat_Int, and_self, and_true, true_and, or_true, true_or, or_self, ite_not, if_true, if_false, not_true_eq_false, not_false_eq_true]
    · unfold zmv
      rw [if_neg (by omega), if_pos rfl]; omega
  · rw [if_neg (by omega), if_neg (by omega)] at a1
    refine ⟨_, P1, ?_, R186, fin ((M 47 8 - 1) % 4) ⟨by omega, ?_⟩⟩
    · simp (disch := omega) only [q89_0, q89_91, s4, a1, b8, zk_47, zun2, zg_pos, zI, ↓reduceIte, Int.reduceEq, Int.reduceLE, Int.reduceLT, Int.reduceAdd, Int.reduceSub, Int.reduceMul, Int.reduceNeg, zg_T, zbI_ok, zbL_ok, zbN_ok, zite1, zite2, zite3, zem, Int.cast_ofNat_Int, and_self, and_true, true_and, or_true, true_or, or_self, ite_not, if_true, if_false, not_true_eq_false, not_false_eq_true]
    · unfold zmv
      rw [if_neg (by omega), if_neg (by omega)]; omega
/-! the first move -/
/-- move k brings the way nearer by its price -/
def zok (b : Int → Int) (h : Int) (D : Int → Int) (s k : Int) : Prop := zmv b s k ≠ -1 ∧ D (zpi (zmv b s k)) + zpm h k = D (zpi s)
theorem zok_2 {b : Int → Int} {h gx gy : Int} {D : Int → Int} {s : Int} (hD : zDF b h gx gy D) (h0 : 0 < D (zpi s)) (n0 : ¬ zok b h D s 0) (n1 : ¬ zok b h D s 1) : zok b h D s 2 := by
  obtain ⟨c', w, a1, a2, a3⟩ := hD.1 _ h0
  obtain ⟨k, k1, k2, k3, k4⟩ := zad_to a1
  have pz : ∀ t, zpi (zsw t) = zpi t := fun t => by unfold zpi zsw; omega
  have lift : ∃ k, (0 ≤ k ∧ k ≤ 3) ∧ zmv b s k ≠ -1 ∧ zpi (zmv b s k) = c' ∧ zpm h k = w := by
    have e : 4 * (zpi s / 2) + zpi s % 2 = 4 * (s / 4) + s % 2 := by unfold zpi; omega
    rw [e] at k2 k3
    by_cases q : s % 4 < 2
    · rw [show 4 * (s / 4) + s % 2 = s by omega] at k2 k3
      exact ⟨k, k1, k2, k3, k4⟩
    · have e2 : zsw (4 * (s / 4) + s % 2) = s := by unfold zsw; omega
      have v := zmv_sw k1 k2
      rw [e2] at v
      refine ⟨zsn k, by unfold zsn; split <;> omega, ?_, by rw [v, pz]; exact k3, by rw [zpm_sn k1.1]; exact k4⟩
      rw [v]
      have := (hD.2.2.2 c').2.2 (by omega)
      rw [← k3] at this
      unfold zpi at this
      unfold zsw
      omega
  obtain ⟨j, j1, j2, j3, j4⟩ := lift
  have ok : zok b h D s j := ⟨j2, by rw [j3, j4]; exact a3.symm⟩
  have jj : j = 0 ∨ j = 1 ∨ j = 2 ∨ j = 3 := by omega
  rcases jj with rfl | rfl | rfl | rfl
  · exact absurd ok n0
  · exact absurd ok n1
  · exact ok
  · have e3 : zmv b s 3 = s - s % 4 + (s % 4 + 3) % 4 := by
      unfold zmv
      rw [if_neg (by omega), if_neg (by omega)]
    have e2 : zmv b s 2 = s - s % 4 + (s % 4 + 1) % 4 := by
      unfold zmv
      rw [if_neg (by omega), if_pos rfl]
    refine ⟨?_, ?_⟩
    · have := ok.1
      rw [e2]; rw [e3] at this
      have := (hD.2.2.2 c').2.2 (by omega)
      rw [← j3, e3] at this
      unfold zpi at this
      omega
    · rw [← ok.2, show zpi (zmv b s 2) = zpi (zmv b s 3) by rw [e2, e3]; unfold zpi; omega]
      rfl
theorem e39 {M : zM} {n m : Nat} {x y q v : Int} (r0 : zPC M) : zex 39 0 [] [(2, 18), (0, x), (0, y), (0, q), (0, v)] M (zKs, n, m) = some ((0, if ((0 ≤ x ∧ x ≤ 31) ∧ (0 ≤ y ∧ y ≤ 31) ∧ M 19 (y * 32 + x) = 0) ∧ M 20 ((y * 32 + x) * 2 + q % 2) = v then 1 else 0), M, (zKs, n, m)) := by
  rw [q39_0, zg_pos (zk_18 n m), e36 r0, zbI_ok]
  by_cases f : (0 ≤ x ∧ x ≤ 31) ∧ (0 ≤ y ∧ y ≤ 31) ∧ M 19 (y * 32 + x) = 0
  · rw [if_pos f, if_neg (by omega), zg_pos ⟨zk_18 n m, by rw [zp_18_2 r0]; omega⟩, e40 f.1 f.2.1, zbI_ok, zp_18_2 r0, zg_pos ⟨by rw [zk_20], by omega, by rw [zk_20]; dsimp only; omega⟩]
    by_cases e : M 20 ((y * 32 + x) * 2 + q % 2) = v
    · rw [if_pos e, if_pos ⟨f, e⟩, q39_17, zg_pos (.inr rfl)]
    · rw [if_neg e, if_neg (fun c => e c.2), q39_16, q39_17, zg_pos (.inl rfl)]
  · rw [if_neg f, if_pos rfl, if_neg (fun c => f c.1), q39_16, q39_17, zg_pos (.inl rfl)]
theorem e38 {M : zM} {n m : Nat} {b : Int → Int} {h gx gy : Int} {D : Int → Int} {x y q g K : Int} {d5 d6 : zV} (r0 : zPC M) (hb : ∀ y, 0 ≤ y → y < 1024 → M 19 y = b y) (hD : zDF b h gx gy D) (hxy : zfr b x y) (hq : 0 ≤ q ∧ q ≤ 3) (hg : 0 < g) (hgK : g ≤ K) (hK : zKn (M 20) D K) (hs : D (zpi (4 * (32 * y + x) + q)) = g) : ∃ k, (k = 0 ∨ k = 1 ∨ k = 2) ∧ zex 38 0 [] [(2, 18), (0, x), (0, y), (0, q), (0, g), d5, d6] M (zKs, n, m) = some ((0, k), M, (zKs, n, m)) ∧ zok b h D (4 * (32 * y + x) + q) k ∧ ∀ j, 0 ≤ j → j < k → ¬ zok b h D (4 * (32 * y + x) + q) j := by
  obtain ⟨f1, f2, f3⟩ := hxy
  have gK : g ≤ 131072 := by rw [← hs]; exact (hD.2.2.2 _).2.1
  obtain ⟨⟨x1, x2⟩, x3, x4⟩ := zax_le q
  have l2 : zsl M 2 = 4 := rfl
  have l3 : zsl M 3 = 4 := rfl
  have d1 : (4 * (32 * y + x) + q) / 4 % 32 = x := by omega
  have d2 : (4 * (32 * y + x) + q) / 4 / 32 = y := by omega
  have d3 : (4 * (32 * y + x) + q) % 4 = q := by omega
  -- a move along the axis
  have ax : ∀ k sg, (k = 0 ∨ k = 1) → zmd k = sg → ((((0 ≤ x + sg * zax q ∧ x + sg * zax q ≤ 31) ∧ (0 ≤ y + sg * zay q ∧ y + sg * zay q ≤ 31) ∧ M 19 ((y + sg * zay q) * 32 + (x + sg * zax q)) = 0) ∧ M 20 (((y + sg * zay q) * 32 + (x + sg * zax q)) * 2 + q % 2) = g - 1) ↔ zok b h D (4 * (32 * y + x) + q) k) := fun k sg hk hsg => by
    have e : zmv b (4 * (32 * y + x) + q) k = if zfr b (x + sg * zax q) (y + sg * zay q) then 4 * (32 * (y + sg * zay q) + (x + sg * zax q)) + q else -1 := by
      unfold zmv
      rw [if_pos (by omega), d1, d2, d3, hsg]
    have w : zpm h k = 1 := if_neg (by omega)
    unfold zok
    rw [e, w, hs]
    generalize sg * zax q = dx
    generalize sg * zay q = dy
    have iff1 : ((0 ≤ x + dx ∧ x + dx ≤ 31) ∧ (0 ≤ y + dy ∧ y + dy ≤ 31) ∧ M 19 ((y + dy) * 32 + (x + dx)) = 0) ↔ zfr b (x + dx) (y + dy) := by
      constructor
      · rintro ⟨c1, c2, c3⟩
        rw [hb _ (by omega) (by omega), show (y + dy) * 32 + (x + dx) = 32 * (y + dy) + (x + dx) by omega] at c3
        exact ⟨c1, c2, c3⟩
      · rintro ⟨c1, c2, c3⟩
        refine ⟨c1, c2, ?_⟩
        rw [hb _ (by omega) (by omega), show (y + dy) * 32 + (x + dx) = 32 * (y + dy) + (x + dx) by omega]
        exact c3
    rw [iff1]
    by_cases f : zfr b (x + dx) (y + dy)
    · obtain ⟨c1, c2, c3⟩ := id f
      rw [if_pos f, show zpi (4 * (32 * (y + dy) + (x + dx)) + q) = ((y + dy) * 32 + (x + dx)) * 2 + q % 2 by unfold zpi; omega, hK _ (g - 1) (by omega) (by omega) (by omega) (by omega)]
      constructor
      · rintro ⟨-, c4⟩
        exact ⟨by omega, by omega⟩
      · rintro ⟨-, c4⟩
        exact ⟨f, by omega⟩
    · rw [if_neg f]
      constructor
      · rintro ⟨c4, -⟩; exact absurd c4 f
      · rintro ⟨c4, -⟩; exact absurd rfl c4
  have A0 := ax 0 1 (.inl rfl) rfl
  have A1 := ax 1 (-1) (.inr rfl) rfl
  rw [Int.one_mul, Int.one_mul] at A0
  rw [show x + -1 * zax q = x - zax q by omega, show y + -1 * zay q = y - zay q by omega] at A1
  have q4 : q % 4 = q := by omega
  have zs := zsv2 (M := M) hq
  have st : zex 38 0 [] [(2, 18), (0, x), (0, y), (0, q), (0, g), d5, d6] M (zKs, n, m) = zbI (zex 39 0 [] [(2, 18), (0, x + zax q), (0, y + zay q), (0, q), (0, g - 1)] M (zKs, n, m)) (fun v1 M1 X1 => if v1 = 0 then zbI (zex 39 0 [] [(2, 18), (0, x - zax q), (0, y - zay q), (0, q), (0, g - 1)] M1 X1) (fun v2 M2 X2 => if v2 = 0 then some ((0, (2 : Int)), M2, X2) else some ((0, (1 : Int)), M2, X2)) else some ((0, (0 : Int)), M1, X1)) := by
    rw [q38_0, show (3 : Int) + 1 = 4 by omega, q4, zs.1, zs.2, l2, l3, zg_pos (by omega), zg_pos ⟨rfl, by omega, by omega⟩, zg_pos (by omega), zg_pos ⟨rfl, by omega, by omega⟩, zg_pos (by unfold zI; omega), zg_pos (by unfold zI; omega), zg_pos (by unfold zI; omega), zg_pos (zk_18 n m), e39 r0, zbI_ok, zbI_ok]
    split
    · rw [zg_pos (by unfold zI; omega), zg_pos (by unfold zI; omega), zg_pos (by unfold zI; omega), zg_pos (zk_18 n m)]
    · rw [zg_pos (by unfold zI; omega), zg_pos (by unfold zI; omega), zg_pos (by unfold zI; omega), zg_pos (zk_18 n m)]
  rw [st, e39 r0, zbI_ok, e39 r0]
  by_cases z0 : zok b h D (4 * (32 * y + x) + q) 0
  · refine ⟨0, .inl rfl, ?_, z0, fun j j0 j1 => by omega⟩
    rw [if_pos (A0.mpr z0), if_neg (by omega)]
  · rw [if_neg (fun c => z0 (A0.mp c)), if_pos rfl, zbI_ok]
    by_cases z1 : zok b h D (4 * (32 * y + x) + q) 1
    · refine ⟨1, .inr (.inl rfl), ?_, z1, fun j j0 j1 => by rw [show j = 0 by omega]; exact z0⟩
      rw [if_pos (A1.mpr z1), if_neg (by omega)]
    · refine ⟨2, .inr (.inr rfl), ?_, zok_2 hD (by rw [hs]; exact hg) z0 z1, fun j j0 j1 => ?_⟩
      · rw [if_neg (fun c => z1 (A1.mp c)), if_pos rfl]
      · have : j = 0 ∨ j = 1 := by omega
        rcases this with rfl | rfl
        · exact z0
        · exact z1
