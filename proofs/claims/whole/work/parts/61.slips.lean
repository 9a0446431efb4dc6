/-! SLIPS: their order, the kinds with slips -/
def zsi (c : Int → Int) (a : Int) : Int := if 1 < c a then c a - 1 else 0
def zsT (c : Int → Int) : Int := zsi c 0 + zsi c 1 + zsi c 2
def zxa (c : Int → Int) (s : Int) : Int := if s < zsi c 0 then 0 else if s < zsi c 0 + zsi c 1 then 1 else 2
def zxp (c : Int → Int) (s : Int) : Int := if s < zsi c 0 then s else if s < zsi c 0 + zsi c 1 then s - zsi c 0 else s - zsi c 0 - zsi c 1
def zCk (c : Int → Int) : Prop := ∀ a, 0 ≤ a → a ≤ 2 → 0 ≤ c a ∧ c a ≤ 40
theorem zsi_le {c : Int → Int} (hc : zCk c) {a : Int} (ha : 0 ≤ a ∧ a ≤ 2) : 0 ≤ zsi c a ∧ zsi c a ≤ 39 ∧ (0 < zsi c a → zsi c a + 1 = c a) := by
  have := hc a ha.1 ha.2
  unfold zsi
  split <;> omega
theorem zsT_le {c : Int → Int} (hc : zCk c) : 0 ≤ zsT c ∧ zsT c ≤ 117 := by
  have h0 := zsi_le hc (a := 0) (by omega)
  have h1 := zsi_le hc (a := 1) (by omega)
  have h2 := zsi_le hc (a := 2) (by omega)
  unfold zsT
  omega
theorem zx_ok {c : Int → Int} (hc : zCk c) {s : Int} (hs : 0 ≤ s ∧ s < zsT c) : (0 ≤ zxa c s ∧ zxa c s ≤ 2) ∧ 0 ≤ zxp c s ∧ zxp c s + 1 < c (zxa c s) ∧ zxp c s + 1 < 40 := by
  have h0 := zsi_le hc (a := 0) (by omega)
  have h1 := zsi_le hc (a := 1) (by omega)
  have h2 := zsi_le hc (a := 2) (by omega)
  unfold zsT at hs
  unfold zxa zxp
  by_cases e0 : s < zsi c 0
  · rw [if_pos e0, if_pos e0]; omega
  · rw [if_neg e0, if_neg e0]
    by_cases e1 : s < zsi c 0 + zsi c 1
    · rw [if_pos e1, if_pos e1]; omega
    · rw [if_neg e1, if_neg e1]; omega
theorem zx_inj {c : Int → Int} (hc : zCk c) {s t : Int} (hs : 0 ≤ s ∧ s < zsT c) (ht : 0 ≤ t ∧ t < zsT c) (h : 40 * zxa c s + zxp c s = 40 * zxa c t + zxp c t) : s = t := by
  have a1 := zx_ok hc hs
  have a2 := zx_ok hc ht
  have e1 : zxa c s = zxa c t := by omega
  have e2 : zxp c s = zxp c t := by omega
  unfold zxa zxp at *
  by_cases s0 : s < zsi c 0 <;> by_cases t0 : t < zsi c 0 <;> by_cases s1 : s < zsi c 0 + zsi c 1 <;> by_cases t1 : t < zsi c 0 + zsi c 1 <;> simp only [s0, t0, s1, t1, if_true, if_false, ↓reduceIte] at e1 e2 <;> omega
/-- kinds with a slip -/
def zks (c k : Int → Int) (s : Int) : Int → Int := fun x => if x = 40 * zxa c s + zxp c s + 1 then 2 else k x
theorem zks_2 {c k : Int → Int} {s : Int} : zks c (zks c k s) s = zks c k s := by
  funext x
  unfold zks
  by_cases e : x = 40 * zxa c s + zxp c s + 1
  · rw [if_pos e, if_pos e]
  · rw [if_neg e]
theorem e200 {P : zM} {n m : Nat} {c : Int → Int} {a : Int} (r1 : zPR P) (ha : 0 ≤ a ∧ a ≤ 2) (hc : zCk c) (hm : P 179 a = c a) : zex 200 0 [] [(2, 178), (0, a)] P (zKs, n, m) = some ((0, zsi c a), P, (zKs, n, m)) := by
  have := hc a ha.1 ha.2
  unfold zsi
  by_cases e : 1 < c a
  · have e2 : ¬ c a ≤ 1 := by omega
    simp (disch := omega) only [q200_0, q200_14, hm, e, e2, zk_178, zk_179, zp_178_1 r1, zg_pos, zI, ↓reduceIte, Int.reduceEq, Int.reduceLE, Int.reduceLT, Int.reduceAdd, Int.reduceSub, Int.reduceMul, Int.reduceNeg, zg_T, zbI_ok, zbL_ok, zbN_ok, zite1, zite2, zite3, zem, Int.cast_ofNat_Int, and_self, and_true, true_and, or_true, true_or, or_self, ite_not, if_true, if_false, not_true_eq_false, not_false_eq_true]
  · have e2 : c a ≤ 1 := by omega
    simp (disch := omega) only [q200_0, q200_14, hm, e, e2, zk_178, zk_179, zp_178_1 r1, zg_pos, ↓reduceIte, Int.reduceEq, Int.reduceLE, Int.reduceLT, Int.reduceAdd, Int.reduceSub, Int.reduceMul, Int.reduceNeg, zg_T, zbI_ok, zbL_ok, zbN_ok, zite1, zite2, zite3, zem, Int.cast_ofNat_Int, and_self, and_true, true_and, or_true, true_or, or_self, ite_not, if_true, if_false, not_true_eq_false, not_false_eq_true]
theorem e201 {P : zM} {n m : Nat} {c : Int → Int} (r1 : zPR P) (hc : zCk c) (hm : ∀ a, 0 ≤ a → a ≤ 2 → P 179 a = c a) : zex 201 0 [] [(2, 178)] P (zKs, n, m) = some ((0, zsT c), P, (zKs, n, m)) := by
  have h0 := zsi_le hc (a := 0) (by omega)
  have h1 := zsi_le hc (a := 1) (by omega)
  have h2 := zsi_le hc (a := 2) (by omega)
  rw [q201_0, zg_pos (zk_178 n m), e200 r1 (by omega) hc (hm 0 (by omega) (by omega)), zbI_ok, zg_pos (zk_178 n m), e200 r1 (by omega) hc (hm 1 (by omega) (by omega)), zbI_ok, zg_pos (by unfold zI; omega), zg_pos (zk_178 n m), e200 r1 (by omega) hc (hm 2 (by omega) (by omega)), zbI_ok, zg_pos (by unfold zI; omega)]
  rfl
theorem e202 {P : zM} {n m : Nat} {c : Int → Int} {s : Int} {d d' : zV} (r1 : zPR P) (hc : zCk c) (hm : ∀ a, 0 ≤ a → a ≤ 2 → P 179 a = c a) (hs : 0 ≤ s ∧ s < zsT c) : zex 202 0 [] [(2, 178), (0, s), d, d'] P (zKs, n, m) = some ((0, 40 * zxa c s + zxp c s), P, (zKs, n, m)) := by
  have h0 := zsi_le hc (a := 0) (by omega)
  have h1 := zsi_le hc (a := 1) (by omega)
  have h2 := zsi_le hc (a := 2) (by omega)
  have f0 := e200 (n := n) (m := m) r1 (a := 0) (by omega) hc (hm 0 (by omega) (by omega))
  have f1 := e200 (n := n) (m := m) r1 (a := 1) (by omega) hc (hm 1 (by omega) (by omega))
  have f2 := e200 (n := n) (m := m) r1 (a := 2) (by omega) hc (hm 2 (by omega) (by omega))
  unfold zsT at hs
  unfold zxa zxp
  rw [q202_0, q202_4, zg_pos (zk_178 n m), f0, zbI_ok]
  by_cases e0 : s < zsi c 0
  · rw [if_pos e0, if_pos e0, if_pos e0, zg_pos (by unfold zI; omega), zg_pos (by unfold zI; omega)]
  · rw [if_neg e0, if_neg e0, if_neg e0, zg_pos (zk_178 n m), f0, zbI_ok, zg_pos (by unfold zI; omega), zg_pos (by unfold zI; omega), show (0 : Int) + 1 = 1 by omega, q202_4, zg_pos (zk_178 n m), f1, zbI_ok]
    by_cases e1 : s < zsi c 0 + zsi c 1
    · rw [if_pos (by omega), if_pos e1, if_pos e1, zg_pos (by unfold zI; omega), zg_pos (by unfold zI; omega)]
    · rw [if_neg (by omega), if_neg e1, if_neg e1, zg_pos (zk_178 n m), f1, zbI_ok, zg_pos (by unfold zI; omega), zg_pos (by unfold zI; omega), show (1 : Int) + 1 = 2 by omega, q202_4, zg_pos (zk_178 n m), f2, zbI_ok, if_pos (by omega), zg_pos (by unfold zI; omega), zg_pos (by unfold zI; omega)]
/-- two slips explain -/
def zA2 (P : zM) (s t : Int) : Prop := zAll (P 179) (zks (P 179) (zks (P 179) (P 180) s) t) (P 181) (P 178 5) (P 178 16) (P 178 21) (zs0 (P 178 10) (P 178 11) (P 178 12)) (P 190) (P 191) (P 192)
theorem e203 {q : Int} {M P0 P : zM} {n m : Nat} {s t : Int} (h : zRel q M P0) (fs : zFs P0 P) (hs : 0 ≤ s ∧ s < zsT (P0 179)) (ht : 0 ≤ t ∧ t < zsT (P0 179)) : ∃ P' w, zex 203 0 [] [(2, 178), (0, s), (0, t)] P (zKs, n, m) = some ((0, w), P', (zKs, n, m)) ∧ zFs P P' ∧ ((w = 1 ∧ zA2 P0 s t) ∨ (w = 0 ∧ ¬ zA2 P0 s t)) := by
  have hc : zCk (P0 179) := h.cle
  have r1 := fs.pr h.1.2
  have rs := h.2.2.2.2.2.1
  have e0 : P 178 10 = P0 178 10 ∧ P 178 11 = P0 178 11 ∧ P 178 12 = P0 178 12 := ⟨fs _ _ (by omega), fs _ _ (by omega), fs _ _ (by omega)⟩
  obtain ⟨A, a1, a2, a3, a4⟩ := e161 (d := (9, 0)) r1 (by rw [e0.1]; exact rs.2.2.2.2.2.1) (by rw [e0.2.1]; exact rs.2.2.2.2.2.2.1)
  rw [e0.1, e0.2.1, e0.2.2] at a2
  have fA := fs.trans a4
  have rA := fA.pr h.1.2
  obtain ⟨s1, s2, s3⟩ := a2
  obtain ⟨x1, x2, x3, x4⟩ := zx_ok hc hs
  obtain ⟨y1, y2, y3, y4⟩ := zx_ok hc ht
  have g1 := e202 (n := n) (m := m) (d := (9, 0)) (d' := (9, 0)) rA hc (fun a _ _ => fA _ _ (by omega)) hs
  have rB : zPR (zu A 212 (40 * zxa (P0 179) s + zxp (P0 179) s + 1) 2) := zPR_zu rA (zPR_row (by decide +kernel))
  have g2 := e202 (P := zu A 212 (40 * zxa (P0 179) s + zxp (P0 179) s + 1) 2) (n := n) (m := m) (d := (9, 0)) (d' := (9, 0)) rB hc (fun a _ _ => by rw [zun (by omega)]; exact fA _ _ (by omega)) ht
  have fC : zFs P0 (zu (zu A 212 (40 * zxa (P0 179) s + zxp (P0 179) s + 1) 2) 212 (40 * zxa (P0 179) t + zxp (P0 179) t + 1) 2) := fun r y hr => by rw [zun (by omega), zun (by omega), fA r y hr]
  have fC' : zFs P (zu (zu A 212 (40 * zxa (P0 179) s + zxp (P0 179) s + 1) 2) 212 (40 * zxa (P0 179) t + zxp (P0 179) t + 1) 2) := fun r y hr => by rw [zun (by omega), zun (by omega), a4 r y hr]
  have SC : zSR (zu (zu A 212 (40 * zxa (P0 179) s + zxp (P0 179) s + 1) 2) 212 (40 * zxa (P0 179) t + zxp (P0 179) t + 1) 2) (zks (P0 179) (zks (P0 179) (P0 180) s) t) (zs0 (P0 178 10) (P0 178 11) (P0 178 12)) := by
    refine ⟨?_, fun a x y => ?_, fun x z0 z1 => ?_⟩
    · rw [zun (by omega), zun (by omega), zun (by omega), zun (by omega), zun (by omega), zun (by omega), zun (by omega), zun (by omega), zun (by omega), zun (by omega)]
      exact s1
    · rw [zun (by omega), zun (by omega), zun (by omega), zun (by omega)]
      exact s2 a x y
    · unfold zks
      by_cases e1 : x = 40 * zxa (P0 179) t + zxp (P0 179) t + 1
      · rw [if_pos e1, e1, zus]
      · rw [if_neg e1, zun2 e1]
        by_cases e2 : x = 40 * zxa (P0 179) s + zxp (P0 179) s + 1
        · rw [if_pos e2, e2, zus]
        · rw [if_neg e2, zun2 e2, s3 x z0 z1, fs _ _ (by omega)]
  obtain ⟨D, v, d1, d2, d3⟩ := e192 (n := n) (m := m) (sx := P0 178 10) (sy := P0 178 11) (sd := P0 178 12) (d := (9, 0)) (d' := (9, 0)) h.ct h.s0 h.sp (h.rd.of fC) SC (by rw [zun (by omega), zun (by omega), a3])
  rcases d3 with ⟨rfl, d3⟩ | ⟨rfl, d3⟩
  · refine ⟨D, 1, ?_, fC'.trans d2, .inl ⟨rfl, d3⟩⟩
    simp (disch := omega) only [q203_0, q203_27, a1, g1, g2, d1, zk_178, zk_212, zp_178_48 rA, zun, zg_pos, zI, ↓reduceIte, Int.reduceEq, Int.reduceLE, Int.reduceLT, Int.reduceAdd, Int.reduceSub, Int.reduceMul, Int.reduceNeg, zg_T, zbI_ok, zbL_ok, zbN_ok, zite1, zite2, zite3, zem, Int.cast_ofNat_Int, and_self, and_true, true_and, or_true, true_or, or_self, ite_not, if_true, if_false, not_true_eq_false, not_false_eq_true]
  · refine ⟨D, 0, ?_, fC'.trans d2, .inr ⟨rfl, d3⟩⟩
    simp (disch := omega) only [q203_0, q203_27, a1, g1, g2, d1, zk_178, zk_212, zp_178_48 rA, zun, zg_pos, zI, ↓reduceIte, Int.reduceEq, Int.reduceLE, Int.reduceLT, Int.reduceAdd, Int.reduceSub, Int.reduceMul, Int.reduceNeg, zg_T, zbI_ok, zbL_ok, zbN_ok, zite1, zite2, zite3, zem, Int.cast_ofNat_Int, and_self, and_true, true_and, or_true, true_or, or_self, ite_not, if_true, if_false, not_true_eq_false, not_false_eq_true]
/-! the class's list -/
def zSL (M : zM) (c : Int → Int) (g : Int) : Prop := M 65 7 = g ∧ ∀ s, 0 ≤ s → s < g → M 72 s = zxa c s ∧ M 73 s = zxp c s
def zslb (c : Int → Int) (a : Int) : Int := if a = 0 then 0 else if a = 1 then zsi c 0 else zsi c 0 + zsi c 1
def zFl (M M' : zM) : Prop := ∀ r y, (r ≠ 72 ∧ r ≠ 73 ∧ (r ≠ 65 ∨ y ≠ 7)) → M' r y = M r y
theorem zFl.d {M M' : zM} (h : zFl M M') : zFd M M' := fun r y hr => h r y (by omega)
theorem zx_at {c : Int → Int} (hc : zCk c) {a i : Int} (ha : 0 ≤ a ∧ a ≤ 2) (hi : 0 ≤ i ∧ i < zsi c a) : zxa c (zslb c a + i) = a ∧ zxp c (zslb c a + i) = i := by
  have h0 := zsi_le hc (a := 0) (by omega)
  have h1 := zsi_le hc (a := 1) (by omega)
  rcases (by omega : a = 0 ∨ a = 1 ∨ a = 2) with rfl | rfl | rfl
  · have e : zslb c 0 = 0 := if_pos rfl
    rw [e]
    unfold zxa zxp
    rw [if_pos (by omega), if_pos (by omega)]; omega
  · have e : zslb c 1 = zsi c 0 := by unfold zslb; rw [if_neg (by omega), if_pos rfl]
    rw [e]
    unfold zxa zxp
    rw [if_neg (by omega), if_pos (by omega), if_neg (by omega), if_pos (by omega)]; omega
  · have e : zslb c 2 = zsi c 0 + zsi c 1 := by unfold zslb; rw [if_neg (by omega), if_neg (by omega)]
    rw [e]
    unfold zxa zxp
    rw [if_neg (by omega), if_neg (by omega), if_neg (by omega), if_neg (by omega)]; omega
theorem e30_i {n m : Nat} {c l wn : Int → Int} {a : Int} (hc : zCk c) (ha : 0 ≤ a ∧ a ≤ 2) : ∀ (q : Nat) (i : Int) (M : zM), 0 ≤ i → i + q = zsi c a → zPC M → zSL M c (zslb c a + i) → ∃ M' i', zex 30 18 [] [(2, 65), (0, a), (0, c a), (0, i)] M (zKs, n, m) = zex 30 5 [] [(2, 65), (0, a + 1), (0, c a), (0, i')] M' (zKs, n, m) ∧ zSL M' c (zslb c a + zsi c a) ∧ zFl M M'
  | 0, i, M, h0, h1, r0, hL => by
    have hz := zsi_le hc ha
    have e : i = zsi c a := by omega
    refine ⟨M, i, ?_, by rw [← e]; exact hL, fun _ _ _ => rfl⟩
    have hca := hc a ha.1 ha.2
    rw [q30_18, zg_pos (by unfold zI; omega), if_pos (by unfold zsi at e; split at e <;> omega), q30_47, zg_pos (by unfold zI; omega)]
  | q + 1, i, M, h0, h1, r0, hL => by
    have hz := zsi_le hc ha
    have hca := hc a ha.1 ha.2
    have t0 := zsi_le hc (a := 0) (by omega)
    have t1 := zsi_le hc (a := 1) (by omega)
    have hb : 0 ≤ zslb c a ∧ zslb c a ≤ 78 := by
      unfold zslb
      split
      · omega
      · split <;> omega
    obtain ⟨L1, L2⟩ := hL
    obtain ⟨x1, x2⟩ := zx_at hc ha (i := i) ⟨h0, by omega⟩
    have s1 : zex 30 18 [] [(2, 65), (0, a), (0, c a), (0, i)] M (zKs, n, m) = zex 30 18 [] [(2, 65), (0, a), (0, c a), (0, i + 1)] (zu (zu (zu M 72 (zslb c a + i) a) 73 (zslb c a + i) i) 65 7 (zslb c a + i + 1)) (zKs, n, m) := by
      rw [q30_18, zg_pos (by unfold zI; omega), if_neg (by omega), zg_pos (zk_65 n m), L1, if_neg (by omega)]
      simp (disch := omega) only [q30_33, q30_39, q30_45, L1, zk_65, zk_72, zk_73, zp_65_8 r0, zp_65_9 r0, zun, zg_pos, zI, ↓reduceIte, Int.reduceEq, Int.reduceLE, Int.reduceLT, Int.reduceAdd, Int.reduceSub, Int.reduceMul, Int.reduceNeg, zg_T, zbI_ok, zbL_ok, zbN_ok, zite1, zite2, zite3, zem, Int.cast_ofNat_Int, and_self, and_true, true_and, or_true, true_or, or_self, ite_not, if_true, if_false, not_true_eq_false, not_false_eq_true]
    have f1 : zFl M (zu (zu (zu M 72 (zslb c a + i) a) 73 (zslb c a + i) i) 65 7 (zslb c a + i + 1)) := fun r y hr => by
      by_cases e : r = 65
      · rw [zun2 (by omega), zun (by omega), zun (by omega)]
      · rw [zun e, zun (by omega), zun (by omega)]
    obtain ⟨M', i', u1, u2, u3⟩ := e30_i (n := n) (m := m) (l := l) (wn := wn) hc ha q (i + 1) (zu (zu (zu M 72 (zslb c a + i) a) 73 (zslb c a + i) i) 65 7 (zslb c a + i + 1)) (by omega) (by omega) (f1.d.pc r0) ⟨by rw [zus, Int.add_assoc], fun s z0 z1 => by
      by_cases e : s = zslb c a + i
      · rw [e, zun (by omega), zun (by omega), zus, zun (by omega), zus, x1, x2]
        exact ⟨rfl, rfl⟩
      · rw [zun (by omega), zun (by omega), zun2 e, zun (by omega), zun2 e, zun (by omega)]
        exact L2 s z0 (by omega)⟩
    exact ⟨M', i', s1.trans u1, u2, fun r y hr => (u3 r y hr).trans (f1 r y hr)⟩
theorem e30 {M : zM} {n m : Nat} {c l wn : Int → Int} {d d' d'' : zV} (hc : zCk c) (r0 : zPC M) (hC : zCC M c l wn) : ∃ M', zex 30 0 [] [(2, 65), d, d', d''] M (zKs, n, m) = some ((9, 0), M', (zKs, n, m)) ∧ zSL M' c (zsT c) ∧ zFl M M' := by
  have f0 : zFl M (zu M 65 7 0) := fun r y hr => by
    by_cases e : r = 65
    · exact zun2 (by omega)
    · exact zun e
  have st : ∀ (Q : zM) (a : Int) (x y : zV), zFl M Q → 0 ≤ a ∧ a ≤ 2 → zex 30 5 [] [(2, 65), (0, a), x, y] Q (zKs, n, m) = zex 30 18 [] [(2, 65), (0, a), (0, c a), (0, 0)] Q (zKs, n, m) := fun Q a x y f ha => by
    have rQ := f.d.pc r0
    have c1 := (f.d.cc hC a ha.1 ha.2).1
    rw [q30_5, if_neg (by omega)]
    simp (disch := omega) only [c1, zk_2, zk_3, zk_27, zk_65, zp_65_0 rQ, zp_27_0 rQ, zp_2_0 rQ, zrp3 rQ ha, zrk3 n m ha, zg_pos, ↓reduceIte, Int.reduceEq, Int.reduceLE, Int.reduceLT, Int.reduceAdd, Int.reduceSub, Int.reduceMul, Int.reduceNeg, zg_T, zbI_ok, zbL_ok, zbN_ok, zite1, zite2, zite3, zem, Int.cast_ofNat_Int, and_self, and_true, true_and, or_true, true_or, or_self, ite_not, if_true, if_false, not_true_eq_false, not_false_eq_true]
  have z0 := zsi_le hc (a := 0) (by omega)
  have z1 := zsi_le hc (a := 1) (by omega)
  have z2 := zsi_le hc (a := 2) (by omega)
  obtain ⟨A, i1, a1, a2, a3⟩ := e30_i (n := n) (m := m) (l := l) (wn := wn) hc (a := 0) (by omega) (zsi c 0).toNat 0 (zu M 65 7 0) (by omega) (by omega) (f0.d.pc r0) ⟨by rw [zus]; rfl, fun s s0 s1 => by unfold zslb at s1; rw [if_pos rfl] at s1; omega⟩
  have fA : zFl M A := fun r y hr => (a3 r y hr).trans (f0 r y hr)
  obtain ⟨B, i2, b1, b2, b3⟩ := e30_i (n := n) (m := m) (l := l) (wn := wn) hc (a := 1) (by omega) (zsi c 1).toNat 0 A (by omega) (by omega) (fA.d.pc r0) (by
    have e : zslb c 1 + 0 = zslb c 0 + zsi c 0 := by unfold zslb; rw [if_neg (by omega), if_pos rfl, if_pos rfl]; omega
    rw [e]; exact a2)
  have fB : zFl M B := fun r y hr => (b3 r y hr).trans (fA r y hr)
  obtain ⟨D, i3, d1, d2, d3⟩ := e30_i (n := n) (m := m) (l := l) (wn := wn) hc (a := 2) (by omega) (zsi c 2).toNat 0 B (by omega) (by omega) (fB.d.pc r0) (by
    have e : zslb c 2 + 0 = zslb c 1 + zsi c 1 := by unfold zslb; rw [if_neg (by omega), if_neg (by omega), if_neg (by omega), if_pos rfl]; omega
    rw [e]; exact b2)
  have fD : zFl M D := fun r y hr => (d3 r y hr).trans (fB r y hr)
  simp only [Int.reduceAdd, Int.zero_add] at a1 b1 d1
  refine ⟨D, ?_, ?_, fD⟩
  · rw [q30_0, zg_pos (zk_65 n m), q30_3, st _ 0 _ _ f0 (by omega), a1, st _ 1 _ _ fA (by omega), b1, st _ 2 _ _ fB (by omega), d1, q30_5, if_pos (by omega)]
  · have e : zsT c = zslb c 2 + zsi c 2 := by unfold zslb zsT; rw [if_neg (by omega), if_neg (by omega)]
    rw [e]
    exact d2
