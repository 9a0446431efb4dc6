/-! GAPS AND THEIR RANKS -/
theorem zsm_add {f : Int → Int} : ∀ (n m : Nat) (i : Int), zsm f i (n + m) = zsm f i n + zsm f (i + n) m
  | 0, m, i => by
    rw [Nat.zero_add, show zsm f i 0 = 0 from rfl, Int.zero_add, show i + ((0 : Nat) : Int) = i by omega]
  | n + 1, m, i => by
    rw [Nat.succ_add]
    show f i + zsm f (i + 1) (n + m) = f i + zsm f (i + 1) n + zsm f (i + ((n + 1 : Nat) : Int)) m
    rw [zsm_add n m (i + 1), show i + ((n + 1 : Nat) : Int) = i + 1 + n by omega]
    omega
def zrk (c k : Int → Int) (a i : Int) : Int := (if 1 ≤ a then zsm (zgp k) 0 (c 0).toNat else 0) + (if 2 ≤ a then zsm (zgp k) 40 (c 1).toNat else 0) + zsm (zgp k) (40 * a) i.toNat
theorem zrk_s {c k : Int → Int} {a i : Int} (hi : 0 ≤ i) : zrk c k a (i + 1) = zrk c k a i + zgp k (40 * a + i) := by
  unfold zrk
  rw [show (i + 1).toNat = i.toNat + 1 by omega, zsm_add, show zsm (zgp k) (40 * a + (i.toNat : Int)) 1 = zgp k (40 * a + (i.toNat : Int)) + 0 from rfl, show 40 * a + (i.toNat : Int) = 40 * a + i by omega]
  omega
theorem zrk_mono {c k : Int → Int} {a i j : Int} (hi : 0 ≤ i) (hij : i ≤ j) : zrk c k a i ≤ zrk c k a j := by
  have e : j.toNat = i.toNat + (j - i).toNat := by omega
  have := (zgp_le2 k (40 * a + (i.toNat : Int)) (j - i).toNat).1
  unfold zrk
  rw [e, zsm_add]
  omega
theorem zrk_next {c k : Int → Int} {a : Int} (ha : a = 0 ∨ a = 1) : zrk c k (a + 1) 0 = zrk c k a (c a) := by
  rcases ha with rfl | rfl
  · unfold zrk
    rw [if_pos (by omega), if_neg (by omega), if_neg (by omega), if_neg (by omega)]
    show zsm (zgp k) 0 (c 0).toNat + 0 + 0 = 0 + 0 + zsm (zgp k) (40 * 0) (c 0).toNat
    rw [Int.mul_zero]
    omega
  · unfold zrk
    rw [if_pos (by omega), if_pos (by omega), if_pos (by omega), if_neg (by omega)]
    show zsm (zgp k) 0 (c 0).toNat + zsm (zgp k) 40 (c 1).toNat + 0 = zsm (zgp k) 0 (c 0).toNat + 0 + zsm (zgp k) (40 * 1) (c 1).toNat
    rw [Int.mul_one]
    omega
theorem zrk_0 {c k : Int → Int} : zrk c k 0 0 = 0 := by
  unfold zrk
  rw [if_neg (by omega), if_neg (by omega)]
  rfl
/-- so many gaps in all -/
def zrG (c k : Int → Int) : Int := zrk c k 2 (c 2)
theorem zrk_top {c k : Int → Int} (hc : ∀ a, 0 ≤ a → a ≤ 2 → 0 ≤ c a) {a : Int} (ha : 0 ≤ a ∧ a ≤ 2) : zrk c k a (c a) ≤ zrG c k := by
  unfold zrG
  have h1 := zrk_next (c := c) (k := k) (a := 1) (.inr rfl)
  have h0 := zrk_next (c := c) (k := k) (a := 0) (.inl rfl)
  simp only [Int.reduceAdd, Int.zero_add] at h1 h0
  have m2 := zrk_mono (c := c) (k := k) (a := 2) (i := 0) (j := c 2) (by omega) (hc 2 (by omega) (by omega))
  have m1 := zrk_mono (c := c) (k := k) (a := 1) (i := 0) (j := c 1) (by omega) (hc 1 (by omega) (by omega))
  rcases (by omega : a = 0 ∨ a = 1 ∨ a = 2) with rfl | rfl | rfl <;> omega
theorem zrk_le {c k : Int → Int} (hc : ∀ a, 0 ≤ a → a ≤ 2 → 0 ≤ c a) {a i : Int} (ha : 0 ≤ a ∧ a ≤ 2) (hi : 0 ≤ i) (hi2 : i ≤ c a) : zrk c k a i ≤ zrG c k := Int.le_trans (zrk_mono hi hi2) (zrk_top hc ha)
theorem zrk_lt {c k : Int → Int} (hc : ∀ a, 0 ≤ a → a ≤ 2 → 0 ≤ c a) {a i : Int} (ha : 0 ≤ a ∧ a ≤ 2) (hi : 0 ≤ i) (hi2 : i < c a) (hk : k (40 * a + i) = 3) : zrk c k a i < zrG c k := by
  have := zrk_le (k := k) hc ha (i := i + 1) (by omega) (by omega)
  rw [zrk_s hi] at this
  have e : zgp k (40 * a + i) = 1 := if_pos hk
  omega
theorem zrk_nn {c k : Int → Int} {a i : Int} : 0 ≤ zrk c k a i := by
  have h1 := zgp_le2 k 0 (c 0).toNat
  have h2 := zgp_le2 k 40 (c 1).toNat
  have h3 := zgp_le2 k (40 * a) i.toNat
  unfold zrk
  split <;> split <;> omega
theorem zrG_un {P : zM} : zrG (P 179) (P 180) = zun0 P := by
  unfold zrG zrk zun0
  rw [if_pos (by omega), if_pos (by omega)]
  rfl
/-- the list of the gaps that are ahead of (a, i) -/
def zLG (M : zM) (c k : Int → Int) (a i : Int) : Prop := M 65 4 = zrk c k a i ∧ (∀ t, 0 ≤ t → t < zrk c k a i → ∃ b j, (0 ≤ b ∧ b ≤ 2) ∧ (0 ≤ j ∧ j < c b) ∧ k (40 * b + j) = 3 ∧ M 70 t = b ∧ M 71 t = j ∧ zrk c k b j = t) ∧ ∀ b j, 0 ≤ b → b ≤ 2 → 0 ≤ j → j < c b → k (40 * b + j) = 3 → (b < a ∨ (b = a ∧ j < i)) → M 70 (zrk c k b j) = b ∧ M 71 (zrk c k b j) = j
def zFg (M M' : zM) : Prop := ∀ r y, (r ≠ 70 ∧ r ≠ 71 ∧ (r ≠ 65 ∨ y ≠ 4)) → M' r y = M r y
theorem zFg.d {M M' : zM} (h : zFg M M') : zFd M M' := fun r y hr => h r y (by omega)
theorem e29_i {n m : Nat} {c l wn k : Int → Int} {a : Int} (hG : zrG c k ≤ 6) (hc : ∀ a, 0 ≤ a → a ≤ 2 → 0 ≤ c a ∧ c a ≤ 40) (ha : 0 ≤ a ∧ a ≤ 2) : ∀ (q : Nat) (i : Int) (M : zM), 0 ≤ i → i + q = c a → zPC M → zCC M c l wn → (∀ i, 0 ≤ i → i < c a → M (6 + 4 * a) i = k (40 * a + i)) → zLG M c k a i → ∃ M' i', zex 29 17 [] [(2, 65), (0, a), (2, 5 + 4 * a), (0, i)] M (zKs, n, m) = zex 29 5 [] [(2, 65), (0, a + 1), (2, 5 + 4 * a), (0, i')] M' (zKs, n, m) ∧ (M' 65 4 = zrk c k a (c a) ∧ zLG M' c k a (c a)) ∧ zFg M M'
  | 0, i, M, h0, h1, r0, hC, hk, hL => by
    have e : i = c a := by omega
    subst e
    refine ⟨M, c a, ?_, ⟨hL.1, hL⟩, fun _ _ _ => rfl⟩
    rw [q29_17, zg_pos (zrk3 n m ha), (hC a ha.1 ha.2).1, if_pos (by omega), q29_51, zg_pos (by unfold zI; omega)]
  | q + 1, i, M, h0, h1, r0, hC, hk, hL => by
    have hcc := hc a ha.1 ha.2
    have hc' : ∀ a, 0 ≤ a → a ≤ 2 → 0 ≤ c a := fun a x y => (hc a x y).1
    obtain ⟨L1, L2, L3⟩ := id hL
    have hnn := zrk_nn (c := c) (k := k) (a := a) (i := i)
    have hle := zrk_le (k := k) hc' ha h0 (by omega)
    have hcd := zCd3 r0 n m ha
    have e6 : 5 + 4 * a + 1 = 6 + 4 * a := by omega
    have kr := hcd.2.2.1
    have kp := hcd.2.2.2.2.2.1
    rw [e6] at kr kp
    by_cases hf : 6 ≤ zrk c k a i
    · -- no gap is left
      have htop := zrk_top (k := k) hc' ha
      have hmono := zrk_mono (c := c) (k := k) (a := a) h0 (j := c a) (by omega)
      have heq : zrk c k a (c a) = zrk c k a i := by omega
      refine ⟨M, i, ?_, ⟨by rw [heq]; exact L1, ⟨by rw [heq]; exact L1, by rw [heq]; exact L2, fun b j b0 b2 j0 j1 hg hb => ?_⟩⟩, fun _ _ _ => rfl⟩
      · rw [q29_17, zg_pos (zrk3 n m ha), (hC a ha.1 ha.2).1, if_neg (by omega), zg_pos (zk_65 n m), L1, if_pos hf, q29_51, zg_pos (by unfold zI; omega)]
      · by_cases hb2 : b < a ∨ (b = a ∧ j < i)
        · exact L3 b j b0 b2 j0 j1 hg hb2
        · have hba : b = a := by omega
          subst hba
          have := zrk_lt hc' ⟨b0, b2⟩ j0 j1 hg
          have := zrk_mono (c := c) (k := k) (a := b) h0 (j := j) (by omega)
          omega
    · have hs := zrk_s (c := c) (k := k) (a := a) h0
      by_cases hg : k (40 * a + i) = 3
      · have hz : zgp k (40 * a + i) = 1 := if_pos hg
        rw [hz] at hs
        have s1 : zex 29 17 [] [(2, 65), (0, a), (2, 5 + 4 * a), (0, i)] M (zKs, n, m) = zex 29 17 [] [(2, 65), (0, a), (2, 5 + 4 * a), (0, i + 1)] (zu (zu (zu M 70 (zrk c k a i) a) 71 (zrk c k a i) i) 65 4 (zrk c k a i + 1)) (zKs, n, m) := by
          rw [q29_17, zg_pos (zrk3 n m ha), (hC a ha.1 ha.2).1, if_neg (by omega), zg_pos (zk_65 n m), L1, if_neg hf]
          simp (disch := omega) only [q29_37, q29_43, q29_49, kr, kp, zrk3 n m ha, hk i h0 (by omega), hg, L1, zk_65, zk_70, zk_71, zp_65_5 r0, zp_65_6 r0, zun, zg_pos, zI, ↓reduceIte, Int.reduceEq, Int.reduceLE, Int.reduceLT, Int.reduceAdd, Int.reduceSub, Int.reduceMul, Int.reduceNeg, zg_T, zbI_ok, zbL_ok, zbN_ok, zite1, zite2, zite3, zem, Int.cast_ofNat_Int, and_self, and_true, true_and, or_true, true_or, or_self, ite_not, if_true, if_false, not_true_eq_false, not_false_eq_true]
        have f1 : zFg M (zu (zu (zu M 70 (zrk c k a i) a) 71 (zrk c k a i) i) 65 4 (zrk c k a i + 1)) := fun r y hr => by
          by_cases e : r = 65
          · rw [zun2 (by omega), zun (by omega), zun (by omega)]
          · rw [zun e, zun (by omega), zun (by omega)]
        have v70 : ∀ t, zu (zu (zu M 70 (zrk c k a i) a) 71 (zrk c k a i) i) 65 4 (zrk c k a i + 1) 70 t = if t = zrk c k a i then a else M 70 t := fun t => by
          rw [zun (by omega), zun (by omega)]
          by_cases e : t = zrk c k a i
          · rw [if_pos e, e, zus]
          · rw [if_neg e, zun2 e]
        have v71 : ∀ t, zu (zu (zu M 70 (zrk c k a i) a) 71 (zrk c k a i) i) 65 4 (zrk c k a i + 1) 71 t = if t = zrk c k a i then i else M 71 t := fun t => by
          rw [zun (by omega)]
          by_cases e : t = zrk c k a i
          · rw [if_pos e, e, zus]
          · rw [if_neg e, zun2 e, zun (by omega)]
        have v65 : zu (zu (zu M 70 (zrk c k a i) a) 71 (zrk c k a i) i) 65 4 (zrk c k a i + 1) 65 4 = zrk c k a i + 1 := zus
        generalize zu (zu (zu M 70 (zrk c k a i) a) 71 (zrk c k a i) i) 65 4 (zrk c k a i + 1) = Q at s1 f1 v70 v71 v65
        have LQ : zLG Q c k a (i + 1) := by
          refine ⟨by rw [v65, hs], fun t t0 t1 => ?_, fun b j b0 b2 j0 j1 hg' hb => ?_⟩
          · by_cases e : t = zrk c k a i
            · exact ⟨a, i, ha, ⟨h0, by omega⟩, hg, by rw [v70, if_pos e], by rw [v71, if_pos e], e.symm⟩
            · obtain ⟨b, j, x1, x2, x3, x4, x5, x6⟩ := L2 t t0 (by omega)
              exact ⟨b, j, x1, x2, x3, by rw [v70, if_neg e, x4], by rw [v71, if_neg e, x5], x6⟩
          · by_cases e : b = a ∧ j = i
            · rw [e.1, e.2, v70, v71, if_pos rfl, if_pos rfl]
              exact ⟨rfl, rfl⟩
            · obtain ⟨x1, x2⟩ := L3 b j b0 b2 j0 j1 hg' (by omega)
              have hlt : zrk c k b j < zrk c k a i := by
                by_cases hba : b = a
                · subst hba
                  have := zrk_mono (c := c) (k := k) (a := b) (i := j + 1) (j := i) (by omega) (by omega)
                  rw [zrk_s j0] at this
                  have : zgp k (40 * b + j) = 1 := if_pos hg'
                  omega
                · have y1 := zrk_mono (c := c) (k := k) (a := b) (i := j + 1) (j := c b) (by omega) (by omega)
                  rw [zrk_s j0] at y1
                  have y2 : zgp k (40 * b + j) = 1 := if_pos hg'
                  have y3 := zrk_mono (c := c) (k := k) (a := a) (i := 0) (j := i) (by omega) h0
                  have n0 := zrk_next (c := c) (k := k) (a := 0) (.inl rfl)
                  have n1 := zrk_next (c := c) (k := k) (a := 1) (.inr rfl)
                  simp only [Int.reduceAdd, Int.zero_add] at n0 n1
                  have y4 := zrk_mono (c := c) (k := k) (a := 1) (i := 0) (j := c 1) (by omega) (hc' 1 (by omega) (by omega))
                  rcases (by omega : (b = 0 ∧ a = 1) ∨ (b = 0 ∧ a = 2) ∨ (b = 1 ∧ a = 2)) with ⟨rfl, rfl⟩ | ⟨rfl, rfl⟩ | ⟨rfl, rfl⟩ <;> omega
              rw [v70, v71, if_neg (by omega), if_neg (by omega)]
              exact ⟨x1, x2⟩
        obtain ⟨M', i', t1, t2, t3⟩ := e29_i (n := n) (m := m) hG hc ha q (i + 1) Q (by omega) (by omega) (f1.d.pc r0) (f1.d.cc hC) (fun i i0 i1 => by rw [f1 _ _ (by omega)]; exact hk i i0 i1) LQ
        exact ⟨M', i', s1.trans t1, t2, fun r y hr => (t3 r y hr).trans (f1 r y hr)⟩
      · have hz : zgp k (40 * a + i) = 0 := if_neg hg
        rw [hz, Int.add_zero] at hs
        have s1 : zex 29 17 [] [(2, 65), (0, a), (2, 5 + 4 * a), (0, i)] M (zKs, n, m) = zex 29 17 [] [(2, 65), (0, a), (2, 5 + 4 * a), (0, i + 1)] M (zKs, n, m) := by
          rw [q29_17, zg_pos (zrk3 n m ha), (hC a ha.1 ha.2).1, if_neg (by omega), zg_pos (zk_65 n m), L1, if_neg hf]
          simp (disch := omega) only [q29_49, kr, kp, zrk3 n m ha, hk i h0 (by omega), hg, zg_pos, zI, ↓reduceIte, Int.reduceEq, Int.reduceLE, Int.reduceLT, Int.reduceAdd, Int.reduceSub, Int.reduceMul, Int.reduceNeg, zg_T, zbI_ok, zbL_ok, zbN_ok, zite1, zite2, zite3, zem, Int.cast_ofNat_Int, and_self, and_true, true_and, or_true, true_or, or_self, ite_not, if_true, if_false, not_true_eq_false, not_false_eq_true]
        have LQ : zLG M c k a (i + 1) := by
          refine ⟨by rw [hs]; exact L1, by rw [hs]; exact L2, fun b j b0 b2 j0 j1 hg' hb => ?_⟩
          by_cases e : b = a ∧ j = i
          · rw [e.1, e.2] at hg'
            exact absurd hg' hg
          · exact L3 b j b0 b2 j0 j1 hg' (by omega)
        obtain ⟨M', i', t1, t2, t3⟩ := e29_i (n := n) (m := m) hG hc ha q (i + 1) M (by omega) (by omega) r0 hC hk LQ
        exact ⟨M', i', s1.trans t1, t2, t3⟩
theorem e29_a {M : zM} {n m : Nat} {c l wn k : Int → Int} {a : Int} {d d' : zV} (hG : zrG c k ≤ 6) (hc : ∀ a, 0 ≤ a → a ≤ 2 → 0 ≤ c a ∧ c a ≤ 40) (ha : 0 ≤ a ∧ a ≤ 2) (r0 : zPC M) (hC : zCC M c l wn) (hk : ∀ i, 0 ≤ i → i < c a → M (6 + 4 * a) i = k (40 * a + i)) (hL : zLG M c k a 0) : ∃ M' e e', zex 29 5 [] [(2, 65), (0, a), d, d'] M (zKs, n, m) = zex 29 5 [] [(2, 65), (0, a + 1), e, e'] M' (zKs, n, m) ∧ (M' 65 4 = zrk c k a (c a) ∧ zLG M' c k a (c a)) ∧ zFg M M' := by
  obtain ⟨M', i', t1, t2, t3⟩ := e29_i (n := n) (m := m) hG hc ha (c a).toNat 0 M (by omega) (by have := hc a ha.1 ha.2; omega) r0 hC hk hL
  refine ⟨M', (2, 5 + 4 * a), (0, i'), ?_, t2, t3⟩
  · rw [← t1, q29_5, if_neg (by omega)]
    simp (disch := omega) only [zk_2, zk_3, zk_27, zk_65, zp_65_0 r0, zp_27_0 r0, zp_2_0 r0, zrp3 r0 ha, zg_pos, ↓reduceIte, Int.reduceEq, Int.reduceLE, Int.reduceLT, Int.reduceAdd, Int.reduceSub, Int.reduceMul, Int.reduceNeg, zg_T, zbI_ok, zbL_ok, zbN_ok, zite1, zite2, zite3, zem, Int.cast_ofNat_Int, and_self, and_true, true_and, or_true, true_or, or_self, ite_not, if_true, if_false, not_true_eq_false, not_false_eq_true]
theorem zLG.next {M : zM} {c k : Int → Int} {a : Int} (ha : a = 0 ∨ a = 1) (h : zLG M c k a (c a)) : zLG M c k (a + 1) 0 := by
  obtain ⟨L1, L2, L3⟩ := h
  have e := zrk_next (c := c) (k := k) ha
  refine ⟨by rw [e]; exact L1, by rw [e]; exact L2, fun b j b0 b2 j0 j1 hg hb => L3 b j b0 b2 j0 j1 hg ?_⟩
  by_cases e : b = a
  · subst e; exact .inr ⟨rfl, j1⟩
  · omega
/-- the list of all gaps -/
def zGL (M : zM) (c k : Int → Int) : Prop := M 65 4 = zrG c k ∧ (∀ t, 0 ≤ t → t < zrG c k → ∃ b j, (0 ≤ b ∧ b ≤ 2) ∧ (0 ≤ j ∧ j < c b) ∧ k (40 * b + j) = 3 ∧ M 70 t = b ∧ M 71 t = j ∧ zrk c k b j = t) ∧ ∀ b j, 0 ≤ b → b ≤ 2 → 0 ≤ j → j < c b → k (40 * b + j) = 3 → M 70 (zrk c k b j) = b ∧ M 71 (zrk c k b j) = j
theorem e29 {M : zM} {n m : Nat} {c l wn k : Int → Int} {d d' d'' : zV} (hG : zrG c k ≤ 6) (hc : ∀ a, 0 ≤ a → a ≤ 2 → 0 ≤ c a ∧ c a ≤ 40) (r0 : zPC M) (hC : zCC M c l wn) (hk : ∀ a, 0 ≤ a → a ≤ 2 → ∀ i, 0 ≤ i → i < c a → M (6 + 4 * a) i = k (40 * a + i)) : ∃ M', zex 29 0 [] [(2, 65), d, d', d''] M (zKs, n, m) = some ((9, 0), M', (zKs, n, m)) ∧ zGL M' c k ∧ zFg M M' := by
  have f0 : zFg M (zu M 65 4 0) := fun r y hr => by
    by_cases e : r = 65
    · exact zun2 (by omega)
    · exact zun e
  have s0 : zex 29 0 [] [(2, 65), d, d', d''] M (zKs, n, m) = zex 29 5 [] [(2, 65), (0, 0), d', d''] (zu M 65 4 0) (zKs, n, m) := by
    simp (disch := omega) only [q29_0, q29_3, zk_65, zg_pos, ↓reduceIte, Int.reduceEq, Int.reduceLE, Int.reduceLT, Int.reduceAdd, Int.reduceSub, Int.reduceMul, Int.reduceNeg, zg_T, zbI_ok, zbL_ok, zbN_ok, zite1, zite2, zite3, zem, Int.cast_ofNat_Int, and_self, and_true, true_and, or_true, true_or, or_self, ite_not, if_true, if_false, not_true_eq_false, not_false_eq_true]
  have L0 : zLG (zu M 65 4 0) c k 0 0 := ⟨by rw [zus, zrk_0], fun t t0 t1 => by rw [zrk_0] at t1; omega, fun b j b0 b2 j0 j1 hg hb => by omega⟩
  have kk : ∀ Q, zFg M Q → ∀ a, 0 ≤ a → a ≤ 2 → ∀ i, 0 ≤ i → i < c a → Q (6 + 4 * a) i = k (40 * a + i) := fun Q f a a0 a2 i i0 i1 => by rw [f _ _ (by omega)]; exact hk a a0 a2 i i0 i1
  obtain ⟨A, x1, x2, a1, a2, a3⟩ := e29_a (n := n) (m := m) (d := d') (d' := d'') (a := 0) hG hc (by omega) (f0.d.pc r0) (f0.d.cc hC) (kk _ f0 0 (by omega) (by omega)) L0
  have fA : zFg M A := fun r y hr => (a3 r y hr).trans (f0 r y hr)
  obtain ⟨B, x3, x4, b1, b2, b3⟩ := e29_a (n := n) (m := m) (d := x1) (d' := x2) (a := 1) hG hc (by omega) (fA.d.pc r0) (fA.d.cc hC) (kk _ fA 1 (by omega) (by omega)) (a2.2.next (.inl rfl))
  have fB : zFg M B := fun r y hr => (b3 r y hr).trans (fA r y hr)
  obtain ⟨D, x5, x6, d1, d2, d3⟩ := e29_a (n := n) (m := m) (d := x3) (d' := x4) (a := 2) hG hc (by omega) (fB.d.pc r0) (fB.d.cc hC) (kk _ fB 2 (by omega) (by omega)) (b2.2.next (.inr rfl))
  have fD : zFg M D := fun r y hr => (d3 r y hr).trans (fB r y hr)
  simp only [Int.reduceAdd, Int.zero_add] at a1 b1 d1
  refine ⟨D, by rw [s0, a1, b1, d1, q29_5, if_pos (by omega)], ⟨d2.1, d2.2.2.1, fun b j b0 b2 j0 j1 hg => d2.2.2.2 b j b0 b2 j0 j1 hg ?_⟩, fD⟩
  by_cases e : b = 2
  · subst e; exact .inr ⟨rfl, j1⟩
  · omega
