/-! WINDINGS: one cord, both sides together -/
def zfC (c : Int) (M M1 : zM) : Prop := ∀ r y, (r < c ∨ c + 3 < r ∨ (r = c ∧ y ≠ 0)) → M1 r y = M r y
def zfP (a : Int) (P P1 : zM) : Prop := ∀ r y, ((r ≠ 178 ∨ y ≠ 63) ∧ (r ≠ 217 ∨ y ≠ a) ∧ ((r ≠ 218 ∧ r ≠ 219) ∨ y < 40 * a ∨ 40 * a + 40 ≤ y)) → P1 r y = P r y
theorem zfC.trans {c : Int} {M M1 M2 : zM} (h1 : zfC c M M1) (h2 : zfC c M1 M2) : zfC c M M2 := fun r y hr => (h2 r y hr).trans (h1 r y hr)
theorem zfP.trans {a : Int} {M M1 M2 : zM} (h1 : zfP a M M1) (h2 : zfP a M1 M2) : zfP a M M2 := fun r y hr => (h2 r y hr).trans (h1 r y hr)
theorem zfP.pr {a : Int} {P P1 : zM} (h : zfP a P P1) (r1 : zPR P) : zPR P1 := zPR_t (fun r y => decide ((r = 178 ∧ y = 63) ∨ r = 217 ∨ r = 218 ∨ r = 219)) (by decide +kernel) r1 (fun r y hr => h r y (by simp at hr; omega))
/-- the outcome of winding on one cord -/
def zW1 (c a : Int) (M P M1 P1 : zM) (v : Int) : Prop := zWn M1 P1 c a ∧ ((v = 1 ∧ P1 178 63 = 0) ∨ (v = 0 ∧ P1 178 63 = 1)) ∧ zfC c M M1 ∧ zfP a P P1
theorem e11J2 {M P : zM} {n m : Nat} {c a k u r : Int} {d4 d5 f5 f6 f7 : zV} (hC : zCd M (zKs, n, m) c) (r1 : zPR P) (W : zWn M P c a) (ha : 0 ≤ a ∧ a ≤ 2) (hk : 0 ≤ k ∧ k ≤ 2) (hr : 1 ≤ r ∧ r ≤ 200) (hm : P 178 63 = 0) (no : ¬ zmg P a k) : ∃ M1 P1 v, zex 11 41 [] [(2, c), (0, k), (0, u), (0, r), d4, d5] M (zKs, n, m) = some ((0, v), M1, (zKs, n, m)) ∧ zex 184 2 [] [(2, 178), (0, a), (0, k), (0, u), (0, r), f5, f6, f7] P (zKs, n, m) = some ((9, 0), P1, (zKs, n, m)) ∧ zW1 c a M P M1 P1 v := by
  obtain ⟨w1, w2, w3⟩ := id W
  by_cases e : P 217 a = 40
  · have c1 := e11_0 (k := k) (u := u) (r := r) (d4 := d4) (d5 := d5) hC (by rw [w1]; exact w2) (.inr ⟨hr.1, by rw [w1]; exact e⟩)
    rw [if_neg (by omega)] at c1
    have u1 : ∀ r y, (r ≠ 178 ∨ y ≠ 63) → zu P 178 63 1 r y = P r y := fun r y h => zu_nq h
    refine ⟨M, _, 0, c1, e184_f (u := u) r1 ha hr hm e no, ⟨by rw [u1 _ _ (by omega)]; exact w1, by rw [u1 _ _ (by omega)]; exact w2, fun i i0 i1 => ?_⟩, .inr ⟨rfl, zus⟩, fun _ _ _ => rfl, fun r y hr => u1 r y hr.1⟩
    rw [u1 _ _ (by omega)] at i1
    rw [u1 _ _ (by omega), u1 _ _ (by omega)]
    exact w3 i i0 i1
  · have c1 := e11_n (k := k) (u := u) (r := r) (d4 := d4) (d5 := d5) hC (by rw [w1]; omega) hr
    rw [w1] at c1
    have p1 := e184_n (u := u) (d5 := f5) (d6 := f6) (d7 := f7) (n := n) (m := m) r1 ha hr hm (by omega) no
    refine ⟨_, _, 1, c1, p1, ⟨?_, ?_, fun i i0 i1 => ?_⟩, .inl ⟨rfl, ?_⟩, fun r y hr => ?_, fun r y hr => ?_⟩
    · rw [zus, zu_nq (by omega), zus]
    · rw [zu_nq (by omega), zus]; omega
    · rw [zu_nq (by omega), zus] at i1
      by_cases ei : i = P 217 a
      · rw [ei]
        have x1 : zu (zu (zu (zu M (c + 1) (P 217 a) k) (c + 2) (P 217 a) r) (c + 3) (P 217 a) 0) c 0 (P 217 a + 1) (c + 1) (P 217 a) = k := by rw [zu_nq (by omega), zu_nq (by omega), zu_nq (by omega), zus]
        have x2 : zu (zu (zu (zu M (c + 1) (P 217 a) k) (c + 2) (P 217 a) r) (c + 3) (P 217 a) 0) c 0 (P 217 a + 1) (c + 2) (P 217 a) = r := by rw [zu_nq (by omega), zu_nq (by omega), zus]
        have x3 : zu (zu (zu (zu M (c + 1) (P 217 a) k) (c + 2) (P 217 a) r) (c + 3) (P 217 a) 0) c 0 (P 217 a + 1) (c + 3) (P 217 a) = 0 := by rw [zu_nq (by omega), zus]
        have x4 : zu (zu (zu (zu P 218 (40 * a + P 217 a) k) 219 (40 * a + P 217 a) 0) 217 a (P 217 a + 1)) 219 (40 * a + P 217 a) r 218 (40 * a + P 217 a) = k := by rw [zu_nq (by omega), zu_nq (by omega), zu_nq (by omega), zus]
        have x5 : zu (zu (zu (zu P 218 (40 * a + P 217 a) k) 219 (40 * a + P 217 a) 0) 217 a (P 217 a + 1)) 219 (40 * a + P 217 a) r 219 (40 * a + P 217 a) = r := zus
        rw [x1, x2, x3, x4, x5]
        omega
      · rw [zu_nq (by omega), zu_nq (by omega), zu_nq (by omega), zu_nq (by omega), zu_nq (by omega), zu_nq (by omega), zu_nq (by omega), zu_nq (by omega), zu_nq (by omega), zu_nq (by omega), zu_nq (by omega), zu_nq (by omega), zu_nq (by omega), zu_nq (by omega), zu_nq (by omega), zu_nq (by omega), zu_nq (by omega), zu_nq (by omega), zu_nq (by omega), zu_nq (by omega)]
        exact w3 i i0 (by omega)
    · rw [zu_nq (by omega), zu_nq (by omega), zu_nq (by omega), zu_nq (by omega)]; exact hm
    · rw [zu_nq (by omega), zu_nq (by omega), zu_nq (by omega), zu_nq (by omega)]
    · rw [zu_nq (by omega), zu_nq (by omega), zu_nq (by omega), zu_nq (by omega)]
theorem e11J {M P : zM} {n m : Nat} {c a k u : Int} (hC : zCd M (zKs, n, m) c) (r1 : zPR P) (W : zWn M P c a) (ha : 0 ≤ a ∧ a ≤ 2) (hk : 0 ≤ k ∧ k ≤ 2) (hu : 1 ≤ u ∧ u ≤ 200) (hm : P 178 63 = 0) : ∃ M1 P1 v, zex 11 0 [] [(2, c), (0, k), (0, u), (9, 0), (9, 0), (9, 0)] M (zKs, n, m) = some ((0, v), M1, (zKs, n, m)) ∧ zex 184 0 [] [(2, 178), (0, a), (0, k), (0, u), (9, 0), (9, 0), (9, 0), (9, 0)] P (zKs, n, m) = some ((9, 0), P1, (zKs, n, m)) ∧ zW1 c a M P M1 P1 v := by
  obtain ⟨w1, w2, w3⟩ := id W
  by_cases e : 0 < P 217 a ∧ P 218 (40 * a + P 217 a - 1) = k
  · have j : 40 * a + (P 217 a - 1) = 40 * a + P 217 a - 1 := by omega
    obtain ⟨x1, x2, x3, x4, x5⟩ := w3 (P 217 a - 1) (by omega) (by omega)
    rw [j] at x1 x2 x4 x5
    obtain ⟨e4, e5, c1⟩ := e11_m (k := k) (u := u) (d3 := (9, 0)) (d4 := (9, 0)) (d5 := (9, 0)) hC (by rw [w1]; omega) hu (by rw [w1, x1]; exact e.2) (by rw [w1, x2]; exact x5)
    rw [w1, x2] at c1
    have wM : ∀ l, 1 ≤ l → l ≤ 200 → ∀ Q : zM, Q 217 a = P 217 a → (∀ i, Q 218 i = P 218 i) → (∀ i, 40 * a ≤ i → i < 40 * a + P 217 a → Q 219 i = if i = 40 * a + P 217 a - 1 then l else P 219 i) → zWn (zu M (c + 2) (P 217 a - 1) l) Q c a := fun l l1 l2 Q q1 q2 q3 => by
      refine ⟨by rw [zu_nq (by omega), q1]; exact w1, by rw [q1]; exact w2, fun i i0 i1 => ?_⟩
      rw [q1] at i1
      obtain ⟨y1, y2, y3, y4, y5⟩ := w3 i i0 i1
      rw [zu_nq (by omega), zu_nq (a := c + 2) (x := c + 3) (by omega), q2, q3 _ (by omega) (by omega), zu_row]
      by_cases ei : i = P 217 a - 1
      · rw [if_pos ei, if_pos (by omega)]
        exact ⟨y1, rfl, y3, y4, l1, l2⟩
      · rw [if_neg ei, if_neg (by omega)]
        exact ⟨y1, y2, y3, y4, y5⟩
    have fM : ∀ l, zfC c M (zu M (c + 2) (P 217 a - 1) l) := fun l r y hr => zu_nq (by omega)
    by_cases hL : P 219 (40 * a + P 217 a - 1) < 200
    · obtain ⟨g5, g6, g7, p1⟩ := e184_m (n := n) (m := m) (u := u) (d5 := (9, 0)) (d6 := (9, 0)) (d7 := (9, 0)) r1 ha hu hm (by omega) e.2 (by omega)
      generalize hl : P 219 (40 * a + P 217 a - 1) = l at c1 p1 hL x2 x5
      have W1 := wM (l + min u (200 - l)) (by omega) (by omega) (zu P 219 (40 * a + P 217 a - 1) (l + min u (200 - l))) (zu_nq (by omega)) (fun i => zu_nq (by omega)) (fun i _ _ => zu_row)
      have fP : zfP a P (zu P 219 (40 * a + P 217 a - 1) (l + min u (200 - l))) := fun r y hr => zu_nq (by omega)
      have hC' : zCd (zu M (c + 2) (P 217 a - 1) (l + min u (200 - l))) (zKs, n, m) c := hC.of (zu_nq (by omega)) (zu_nq (by omega)) (zu_nq (by omega))
      have r1' := fP.pr r1
      have hm' : zu P 219 (40 * a + P 217 a - 1) (l + min u (200 - l)) 178 63 = 0 := by rw [zu_nq (by omega)]; exact hm
      by_cases e0 : u - min u (200 - l) = 0
      · have c2 := e11_0 (k := k) (u := u) (r := u - min u (200 - l)) (d4 := e4) (d5 := e5) hC' (by rw [W1.1]; exact W1.2.1) (.inl e0)
        rw [if_pos e0] at c2
        refine ⟨_, _, 1, c1.trans c2, ?_, W1, .inl ⟨rfl, hm'⟩, fM _, fP⟩
        rw [q184_0, p1, e184_0 (.inl (by omega))]
      · obtain ⟨M1, P1, v, a1, a2, b1, b2, b3, b4⟩ := e11J2 (k := k) (u := u) (r := u - min u (200 - l)) (d4 := e4) (d5 := e5) (f5 := g5) (f6 := g6) (f7 := g7) hC' r1' W1 ha hk (by omega) hm' (fun z => by
          have z3 := z.2.2
          rw [zu_nq (x := 217) (by omega), zus] at z3
          omega)
        exact ⟨M1, P1, v, c1.trans a1, by rw [q184_0, p1]; exact a2, b1, b2, (fM _).trans b3, fP.trans b4⟩
    · have l200 : P 219 (40 * a + P 217 a - 1) = 200 := by omega
      rw [l200, show min u (200 - 200) = 0 by omega] at c1
      have W1 := wM (200 + 0) (by omega) (by omega) P rfl (fun _ => rfl) (fun i _ _ => by
        by_cases ei : i = 40 * a + P 217 a - 1
        · rw [if_pos ei, ei, l200]; rfl
        · rw [if_neg ei])
      have hC' : zCd (zu M (c + 2) (P 217 a - 1) (200 + 0)) (zKs, n, m) c := hC.of (zu_nq (by omega)) (zu_nq (by omega)) (zu_nq (by omega))
      obtain ⟨M1, P1, v, a1, a2, b1, b2, b3, b4⟩ := e11J2 (k := k) (u := u) (r := u - 0) (d4 := e4) (d5 := e5) (f5 := (9, 0)) (f6 := (9, 0)) (f7 := (9, 0)) hC' r1 W1 ha hk (by omega) hm (fun z => hL z.2.2)
      rw [show u - 0 = u by omega] at a2
      exact ⟨M1, P1, v, c1.trans a1, by rw [q184_0]; exact a2, b1, b2, (fM _).trans b3, b4⟩
  · have c1 := e11_s (k := k) (u := u) (d3 := (9, 0)) (d4 := (9, 0)) (d5 := (9, 0)) hC (by rw [w1]; exact w2) (by
      rw [w1]
      by_cases z : P 217 a = 0
      · exact .inl z
      · refine .inr (fun z2 => e ⟨by omega, ?_⟩)
        have x1 := (w3 (P 217 a - 1) (by omega) (by omega)).1
        rw [show 40 * a + (P 217 a - 1) = 40 * a + P 217 a - 1 by omega] at x1
        rw [← x1]; exact z2)
    obtain ⟨M1, P1, v, a1, a2, b⟩ := e11J2 (k := k) (u := u) (r := u) (d4 := (9, 0)) (d5 := (9, 0)) (f5 := (9, 0)) (f6 := (9, 0)) (f7 := (9, 0)) hC r1 W ha hk hu hm (fun z => e ⟨z.1, z.2.1⟩)
    exact ⟨M1, P1, v, c1.trans a1, by rw [q184_0]; exact a2, b⟩
