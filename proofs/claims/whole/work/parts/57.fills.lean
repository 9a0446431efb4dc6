/-! FILLINGS: the kinds of a filling on either side -/
def zdv : Nat → Int → Int
  | 0, n => n
  | r + 1, n => zdv r n / 3
theorem zdv_nn : ∀ (r : Nat) (n : Int), 0 ≤ n → 0 ≤ zdv r n ∧ zdv r n ≤ n
  | 0, n, h => ⟨h, Int.le_refl _⟩
  | r + 1, n, h => by
    have := zdv_nn r n h
    show 0 ≤ zdv r n / 3 ∧ zdv r n / 3 ≤ n
    omega
def zkf (c k : Int → Int) (N x : Int) : Int := if x % 40 < c (x / 40) ∧ k x = 3 then zdv (zrk c k (x / 40) (x % 40)).toNat N % 3 else k x
theorem zkf_at {c k : Int → Int} {N a i : Int} (hi : 0 ≤ i ∧ i < 40) : zkf c k N (40 * a + i) = if i < c a ∧ k (40 * a + i) = 3 then zdv (zrk c k a i).toNat N % 3 else k (40 * a + i) := by
  unfold zkf
  rw [show (40 * a + i) % 40 = i by omega, show (40 * a + i) / 40 = a by omega]
theorem e195_i {n m : Nat} {c k : Int → Int} {R N a : Int} (hR : R = 212 ∨ R = 220) (hN : 0 ≤ N) (ha : 0 ≤ a ∧ a ≤ 2) (hc : 0 ≤ c a ∧ c a ≤ 40) : ∀ (q : Nat) (i : Int) (P : zM), 0 ≤ i → i + q = c a → zPR P → P 179 a = c a → (∀ x, 0 ≤ x → x < 120 → P 180 x = k x) → (∀ x, 0 ≤ x → x < 120 → P R x = if x < 40 * a + i then zkf c k N x else k x) → ∃ P', zex 195 11 [] [(2, 178), (2, R), (0, N), (0, zdv (zrk c k a i).toNat N), (0, a), (0, 40 * a + i)] P (zKs, n, m) = zex 195 4 [] [(2, 178), (2, R), (0, N), (0, zdv (zrk c k a (c a)).toNat N), (0, a + 1), (0, 40 * a + c a)] P' (zKs, n, m) ∧ (∀ x, 0 ≤ x → x < 120 → P' R x = if x < 40 * a + 40 then zkf c k N x else k x) ∧ ∀ r y, r ≠ R → P' r y = P r y
  | 0, i, P, h0, h1, r1, hm, hk, hr => by
    have e : i = c a := by omega
    subst e
    refine ⟨P, ?_, fun x x0 x1 => ?_, fun _ _ _ => rfl⟩
    · rw [q195_11]
      simp (disch := omega) only [hm, zk_178, zk_179, zp_178_1 r1, if_pos, zg_pos, zI, ↓reduceIte, Int.reduceEq, Int.reduceLE, Int.reduceLT, Int.reduceAdd, Int.reduceSub, Int.reduceMul, Int.reduceNeg, zg_T, zbI_ok, zbL_ok, zbN_ok, zite1, zite2, zite3, zem, Int.cast_ofNat_Int, and_self, and_true, true_and, or_true, true_or, or_self, ite_not, if_true, if_false, not_true_eq_false, not_false_eq_true]
    · rw [hr x x0 x1]
      by_cases e1 : x < 40 * a + c a
      · rw [if_pos e1, if_pos (by omega)]
      · rw [if_neg e1]
        by_cases e2 : x < 40 * a + 40
        · rw [if_pos e2]
          have e3 : x = 40 * a + (x - 40 * a) := by omega
          rw [e3, zkf_at (by omega), if_neg (by omega)]
        · rw [if_neg e2]
  | q + 1, i, P, h0, h1, r1, hm, hk, hr => by
    have hs := zrk_s (c := c) (k := k) (a := a) h0
    have hnn := zrk_nn (c := c) (k := k) (a := a) (i := i)
    have dn := zdv_nn (zrk c k a i).toNat N hN
    have hk1 := hk (40 * a + i) (by omega) (by omega)
    by_cases hg : k (40 * a + i) = 3
    · have hz : zgp k (40 * a + i) = 1 := if_pos hg
      rw [hz] at hs
      have ed : zdv (zrk c k a (i + 1)).toNat N = zdv (zrk c k a i).toNat N / 3 := by
        rw [hs, show (zrk c k a i + 1).toNat = (zrk c k a i).toNat + 1 by omega]
        rfl
      have s1 : zex 195 11 [] [(2, 178), (2, R), (0, N), (0, zdv (zrk c k a i).toNat N), (0, a), (0, 40 * a + i)] P (zKs, n, m) = zex 195 11 [] [(2, 178), (2, R), (0, N), (0, zdv (zrk c k a (i + 1)).toNat N), (0, a), (0, 40 * a + (i + 1))] (zu P R (40 * a + i) (zdv (zrk c k a i).toNat N % 3)) (zKs, n, m) := by
        have kR : zkd (zKs, n, m) R = (0, 120) := by
          rcases hR with rfl | rfl
          · exact zk_212 n m
          · exact zk_220 n m
        rw [q195_11, ed]
        simp (disch := omega) only [q195_37, hm, hk1, hg, kR, zk_178, zk_179, zk_180, zp_178_1 r1, zp_178_2 r1, ztd_p, ztm_p, if_neg, zg_pos, zI, Int.add_assoc, ↓reduceIte, Int.reduceEq, Int.reduceLE, Int.reduceLT, Int.reduceAdd, Int.reduceSub, Int.reduceMul, Int.reduceNeg, zg_T, zbI_ok, zbL_ok, zbN_ok, zite1, zite2, zite3, zem, Int.cast_ofNat_Int, and_self, and_true, true_and, or_true, true_or, or_self, ite_not, if_true, if_false, not_true_eq_false, not_false_eq_true]
      have hRn : R ≠ 178 ∧ R ≠ 179 ∧ R ≠ 180 := by omega
      obtain ⟨P', t1, t2, t3⟩ := e195_i (n := n) (m := m) (c := c) (k := k) hR hN ha hc q (i + 1) (zu P R (40 * a + i) (zdv (zrk c k a i).toNat N % 3)) (by omega) (by omega) (zPR_zu r1 (by rcases hR with rfl | rfl <;> exact zPR_row (by decide +kernel))) (by rw [zun (by omega), hm]) (fun x x0 x1 => by rw [zun (by omega)]; exact hk x x0 x1) (fun x x0 x1 => by
        by_cases e : x = 40 * a + i
        · rw [e, zus, if_pos (by omega), zkf_at (by omega), if_pos ⟨by omega, hg⟩]
        · rw [zun2 e, hr x x0 x1]
          by_cases e1 : x < 40 * a + i
          · rw [if_pos e1, if_pos (by omega)]
          · rw [if_neg e1, if_neg (by omega)])
      exact ⟨P', s1.trans t1, t2, fun r y hr => by rw [t3 r y hr, zun hr]⟩
    · have hz : zgp k (40 * a + i) = 0 := if_neg hg
      rw [hz, Int.add_zero] at hs
      have s1 : zex 195 11 [] [(2, 178), (2, R), (0, N), (0, zdv (zrk c k a i).toNat N), (0, a), (0, 40 * a + i)] P (zKs, n, m) = zex 195 11 [] [(2, 178), (2, R), (0, N), (0, zdv (zrk c k a (i + 1)).toNat N), (0, a), (0, 40 * a + (i + 1))] P (zKs, n, m) := by
        rw [q195_11, hs]
        simp (disch := omega) only [q195_37, hm, hk1, hg, zk_178, zk_179, zk_180, zp_178_1 r1, zp_178_2 r1, if_neg, zg_pos, zI, Int.add_assoc, ↓reduceIte, Int.reduceEq, Int.reduceLE, Int.reduceLT, Int.reduceAdd, Int.reduceSub, Int.reduceMul, Int.reduceNeg, zg_T, zbI_ok, zbL_ok, zbN_ok, zite1, zite2, zite3, zem, Int.cast_ofNat_Int, and_self, and_true, true_and, or_true, true_or, or_self, ite_not, if_true, if_false, not_true_eq_false, not_false_eq_true]
      obtain ⟨P', t1, t2, t3⟩ := e195_i (n := n) (m := m) (c := c) (k := k) hR hN ha hc q (i + 1) P (by omega) (by omega) r1 hm hk (fun x x0 x1 => by
        rw [hr x x0 x1]
        by_cases e : x = 40 * a + i
        · rw [e, if_neg (by omega), if_pos (by omega), zkf_at (by omega), if_neg (fun y => hg y.2)]
        · by_cases e1 : x < 40 * a + i
          · rw [if_pos e1, if_pos (by omega)]
          · rw [if_neg e1, if_neg (by omega)])
      exact ⟨P', s1.trans t1, t2, t3⟩
theorem e195_a {P : zM} {n m : Nat} {c k : Int → Int} {R N a : Int} {d5 : zV} (hR : R = 212 ∨ R = 220) (hN : 0 ≤ N) (ha : 0 ≤ a ∧ a ≤ 2) (hc : 0 ≤ c a ∧ c a ≤ 40) (r1 : zPR P) (hm : P 179 a = c a) (hk : ∀ x, 0 ≤ x → x < 120 → P 180 x = k x) (hr : ∀ x, 0 ≤ x → x < 120 → P R x = if x < 40 * a then zkf c k N x else k x) : ∃ P' d5', zex 195 4 [] [(2, 178), (2, R), (0, N), (0, zdv (zrk c k a 0).toNat N), (0, a), d5] P (zKs, n, m) = zex 195 4 [] [(2, 178), (2, R), (0, N), (0, zdv (zrk c k a (c a)).toNat N), (0, a + 1), d5'] P' (zKs, n, m) ∧ (∀ x, 0 ≤ x → x < 120 → P' R x = if x < 40 * (a + 1) then zkf c k N x else k x) ∧ ∀ r y, r ≠ R → P' r y = P r y := by
  obtain ⟨P', t1, t2, t3⟩ := e195_i (n := n) (m := m) (c := c) (k := k) hR hN ha hc (c a).toNat 0 P (by omega) (by omega) r1 hm hk (fun x x0 x1 => by rw [Int.add_zero]; exact hr x x0 x1)
  refine ⟨P', (0, 40 * a + c a), ?_, fun x x0 x1 => by rw [t2 x x0 x1, show 40 * (a + 1) = 40 * a + 40 by omega], t3⟩
  rw [← t1, q195_4, if_neg (by omega), zg_pos (by unfold zI; omega), Int.add_zero]
theorem e195 {P : zM} {n m : Nat} {c k : Int → Int} {R N : Int} {d d' d'' : zV} (hR : R = 212 ∨ R = 220) (hN : 0 ≤ N) (hc : ∀ a, 0 ≤ a → a ≤ 2 → P 179 a = c a ∧ 0 ≤ c a ∧ c a ≤ 40) (r1 : zPR P) (hk : ∀ x, 0 ≤ x → x < 120 → P 180 x = k x) (hr : ∀ x, 0 ≤ x → x < 120 → P R x = k x) : ∃ P', zex 195 0 [] [(2, 178), (2, R), (0, N), d, d', d''] P (zKs, n, m) = some ((9, 0), P', (zKs, n, m)) ∧ (∀ x, 0 ≤ x → x < 120 → P' R x = zkf c k N x) ∧ ∀ r y, r ≠ R → P' r y = P r y := by
  have hRn : R ≠ 178 ∧ R ≠ 179 ∧ R ≠ 180 := by omega
  have pr : ∀ Q : zM, (∀ r y, r ≠ R → Q r y = P r y) → zPR Q := fun Q hQ => zPR_t (fun r y => decide (r = 212 ∨ r = 220)) (by decide +kernel) r1 (fun r y h => hQ r y (by simp at h; omega))
  obtain ⟨A, x1, a1, a2, a3⟩ := e195_a (n := n) (m := m) (c := c) (k := k) (d5 := d'') (N := N) (a := 0) hR hN (by omega) (hc 0 (by omega) (by omega)).2 r1 (hc 0 (by omega) (by omega)).1 hk (fun x x0 x1 => by rw [if_neg (by omega)]; exact hr x x0 x1)
  obtain ⟨B, x2, b1, b2, b3⟩ := e195_a (n := n) (m := m) (c := c) (k := k) (d5 := x1) (N := N) (a := 1) hR hN (by omega) (hc 1 (by omega) (by omega)).2 (pr A a3) (by rw [a3 _ _ (by omega)]; exact (hc 1 (by omega) (by omega)).1) (fun x x0 x1 => by rw [a3 _ _ (by omega)]; exact hk x x0 x1) (fun x x0 x1 => by rw [a2 x x0 x1]; rfl)
  have fB : ∀ r y, r ≠ R → B r y = P r y := fun r y h => (b3 r y h).trans (a3 r y h)
  obtain ⟨D, x3, d1, d2, d3⟩ := e195_a (n := n) (m := m) (c := c) (k := k) (d5 := x2) (N := N) (a := 2) hR hN (by omega) (hc 2 (by omega) (by omega)).2 (pr B fB) (by rw [fB _ _ (by omega)]; exact (hc 2 (by omega) (by omega)).1) (fun x x0 x1 => by rw [fB _ _ (by omega)]; exact hk x x0 x1) (fun x x0 x1 => by rw [b2 x x0 x1]; rfl)
  have n0 := zrk_next (c := c) (k := k) (a := 0) (.inl rfl)
  have n1 := zrk_next (c := c) (k := k) (a := 1) (.inr rfl)
  simp only [Int.reduceAdd, Int.zero_add] at n0 n1 a1 b1 d1
  rw [n0] at b1
  rw [n1] at d1
  refine ⟨D, ?_, fun x x0 x1 => by rw [d2 x x0 x1, if_pos (by omega)], fun r y h => (d3 r y h).trans (fB r y h)⟩
  rw [q195_0]
  have z : zdv (zrk c k 0 0).toNat N = N := by rw [zrk_0]; rfl
  rw [z] at a1
  rw [a1, b1, d1, q195_4, if_pos (by omega)]
/-- the class's kinds when t gaps are filled -/
def zKS (M : zM) (c k : Int → Int) (N t : Int) : Prop := ∀ a i, 0 ≤ a → a ≤ 2 → 0 ≤ i → i < c a → (k (40 * a + i) ≠ 3 → M (30 + a) i = k (40 * a + i)) ∧ (k (40 * a + i) = 3 → zrk c k a i < t → M (30 + a) i = zdv (zrk c k a i).toNat N % 3)
theorem e21_f {n m : Nat} {c k : Int → Int} {N x1 : Int} (hN : 0 ≤ N ∧ N ≤ 2147483647) (hG : zrG c k ≤ 6) (hc : ∀ a, 0 ≤ a → a ≤ 2 → 0 ≤ c a ∧ c a ≤ 40) : ∀ (q : Nat) (t : Int) (M : zM), 0 ≤ t → t + q = zrG c k → zPC M → zGL M c k → zKS M c k N t → ∃ M', zex 21 27 [] [(2, 65), (1, x1), (9, 0), (0, N), (0, zdv t.toNat N), (0, t)] M (zKs, n, m) = zex 21 27 [] [(2, 65), (1, x1), (9, 0), (0, N), (0, zdv (zrG c k).toNat N), (0, zrG c k)] M' (zKs, n, m) ∧ zKS M' c k N (zrG c k) ∧ ∀ r y, (r < 30 ∨ 32 < r) → M' r y = M r y
  | 0, t, M, h0, h1, r0, hL, hS => by
    have e : t = zrG c k := by omega
    subst e
    exact ⟨M, rfl, hS, fun _ _ _ => rfl⟩
  | q + 1, t, M, h0, h1, r0, hL, hS => by
    obtain ⟨L1, L2, L3⟩ := id hL
    obtain ⟨b, j, hb, hj, hg, g1, g2, g3⟩ := L2 t h0 (by omega)
    have hcb := hc b hb.1 hb.2
    have dn := zdv_nn t.toNat N hN.1
    have s1 : zex 21 27 [] [(2, 65), (1, x1), (9, 0), (0, N), (0, zdv t.toNat N), (0, t)] M (zKs, n, m) = zex 21 27 [] [(2, 65), (1, x1), (9, 0), (0, N), (0, zdv (t + 1).toNat N), (0, t + 1)] (zu M (30 + b) j (zdv t.toNat N % 3)) (zKs, n, m) := by
      have ed : zdv (t + 1).toNat N = zdv t.toNat N / 3 := by
        rw [show (t + 1).toNat = t.toNat + 1 by omega]
        rfl
      rw [q21_27, zg_pos (zk_65 n m), L1, if_neg (by omega), ed]
      simp (disch := omega) only [g1, g2, zrp29 r0 hb, zrk29 n m hb, zk_27, zk_29, zk_65, zk_70, zk_71, zp_65_0 r0, zp_65_5 r0, zp_65_6 r0, zp_27_3 r0, ztd_p, ztm_p, zg_pos, zI, ↓reduceIte, Int.reduceEq, Int.reduceLE, Int.reduceLT, Int.reduceAdd, Int.reduceSub, Int.reduceMul, Int.reduceNeg, zg_T, zbI_ok, zbL_ok, zbN_ok, zite1, zite2, zite3, zem, Int.cast_ofNat_Int, and_self, and_true, true_and, or_true, true_or, or_self, ite_not, if_true, if_false, not_true_eq_false, not_false_eq_true]
    have f : ∀ r y, (r < 30 ∨ 32 < r) → zu M (30 + b) j (zdv t.toNat N % 3) r y = M r y := fun r y hr => zun (by omega)
    obtain ⟨M', t1, t2, t3⟩ := e21_f (n := n) (m := m) (c := c) (k := k) (x1 := x1) hN hG hc q (t + 1) (zu M (30 + b) j (zdv t.toNat N % 3)) (by omega) (by omega) (zPC_t (fun r y => decide (30 ≤ r ∧ r ≤ 32)) (by decide +kernel) r0 (fun r y hr => f r y (by simp at hr; omega))) ⟨by rw [f _ _ (by omega), L1], fun t t0 t1 => by rw [f _ _ (by omega), f _ _ (by omega)]; exact L2 t t0 t1, fun b j b0 b2 j0 j1 hg => by rw [f _ _ (by omega), f _ _ (by omega)]; exact L3 b j b0 b2 j0 j1 hg⟩ (fun a i a0 a2 i0 i1 => by
      obtain ⟨s1, s2⟩ := hS a i a0 a2 i0 i1
      by_cases e : a = b ∧ i = j
      · obtain ⟨rfl, rfl⟩ := e
        refine ⟨fun x => absurd hg x, fun _ _ => ?_⟩
        rw [zus, g3]
      · have e2 : zu M (30 + b) j (zdv t.toNat N % 3) (30 + a) i = M (30 + a) i := by
          by_cases e3 : a = b
          · exact zun2 (by omega)
          · exact zun (by omega)
        rw [e2]
        refine ⟨s1, fun x y => s2 x ?_⟩
        have : zrk c k a i ≠ t := fun z => by
          obtain ⟨y1, y2⟩ := L3 a i a0 a2 i0 i1 x
          rw [z, g1] at y1
          rw [z, g2] at y2
          exact e ⟨y1.symm, y2.symm⟩
        omega)
    exact ⟨M', s1.trans t1, t2, fun r y hr => (t3 r y hr).trans (f r y hr)⟩
theorem zKS.kf {M : zM} {c k : Int → Int} {N : Int} (hc : ∀ a, 0 ≤ a → a ≤ 2 → 0 ≤ c a ∧ c a ≤ 40) (h : zKS M c k N (zrG c k)) : ∀ a, 0 ≤ a → a ≤ 2 → ∀ i, 0 ≤ i → i < c a → M (30 + a) i = zkf c k N (40 * a + i) := fun a a0 a2 i i0 i1 => by
  have hca := hc a a0 a2
  obtain ⟨s1, s2⟩ := h a i a0 a2 i0 i1
  rw [zkf_at (by omega)]
  by_cases e : k (40 * a + i) = 3
  · rw [if_pos ⟨i1, e⟩]
    exact s2 e (zrk_lt (fun a x y => (hc a x y).1) ⟨a0, a2⟩ i0 i1 e)
  · rw [if_neg (fun x => e x.2)]
    exact s1 e
