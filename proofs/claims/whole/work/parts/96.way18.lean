/-! WAYS: the class's search, all of it -/
theorem zD_no {b : Int → Int} {h x y : Int} {D : Int → Int} (hD : zDF b h x y D) (hh : 1 ≤ h ∧ h ≤ 8) (hg : ¬ zfr b x y) : ∀ (n : Nat) (c : Int), 0 ≤ D c → D c ≤ n → False
  | 0, c, h0, h1 => hg ((hD.2.2.1 c).mp (by omega)).2.1
  | n + 1, c, h0, h1 => by
    by_cases e : D c = 0
    · exact hg ((hD.2.2.1 c).mp e).2.1
    · obtain ⟨c', w, a1, a2, a3⟩ := hD.1 c (by omega)
      have := zad_w hh a1
      exact zD_no hD hh hg n c' a2 (by omega)
/-- the search's start: both states of the goal are reached -/
theorem zJ_0 {b : Int → Int} {h x y : Int} {D : Int → Int} {w : Int} {U s t : Int → Int} (hD : zDF b h x y D) (hg : zfr b x y) (hw : 0 ≤ w ∧ w < 2048) (hU : ∀ c, 0 ≤ c → c < 2048 → U c = if c = (y * 32 + x) * 2 + 1 ∨ c = (y * 32 + x) * 2 then 0 else 1073741824) (hs : s 0 = (y * 32 + x) * 2 ∧ s 1 = (y * 32 + x) * 2 + 1) : zJ b h D w U 0 (fun _ => 0) 0 2 s 0 0 t (-1) := by
  obtain ⟨hs0, hs1⟩ := hs
  obtain ⟨f1, f2, f3⟩ := id hg
  have u0 : U ((y * 32 + x) * 2) = 0 := by rw [hU _ (by omega) (by omega), if_pos (by omega)]
  have u1 : U ((y * 32 + x) * 2 + 1) = 0 := by rw [hU _ (by omega) (by omega), if_pos (by omega)]
  have si : ∀ i, 0 ≤ i → i < 2 → (s i = (y * 32 + x) * 2 ∨ s i = (y * 32 + x) * 2 + 1) ∧ U (s i) = 0 := fun i i0 i1 => by
    have : i = 0 ∨ i = 1 := by omega
    rcases this with rfl | rfl
    · rw [hs0]; exact ⟨.inl rfl, u0⟩
    · rw [hs1]; exact ⟨.inr rfl, u1⟩
  have pd : ∀ c, 0 ≤ c → c < 2048 → U c < 1073741824 → zPS 0 2 s c ∧ D c = 0 ∧ U c = 0 := fun c c0 c1 cu => by
    rw [hU c c0 c1] at cu
    by_cases k : c = (y * 32 + x) * 2 + 1 ∨ c = (y * 32 + x) * 2
    · refine ⟨?_, (hD.2.2.1 c).mpr ⟨⟨c0, c1⟩, hg, by omega⟩, by rw [hU c c0 c1, if_pos k]⟩
      rcases k with k | k
      · exact ⟨1, by omega, by omega, by rw [hs1, k]⟩
      · exact ⟨0, by omega, by omega, by rw [hs0, k]⟩
    · rw [if_neg k] at cu
      omega
  refine ⟨⟨by omega, fun i i0 i1 => ?_, fun i j i0 ij j1 => ?_, fun i i0 i1 => ?_⟩, ⟨by omega, fun i i0 i1 => by omega, fun i j i0 ij j1 => by omega, fun i i0 i1 => by omega⟩, ⟨fun c c0 c1 => ⟨?_, fun cu => ?_⟩, fun c hc => ?_⟩, fun c c0 c1 cu _ => .inl (pd c c0 c1 cu).1, fun wu => .inl (pd w hw.1 hw.2 wu).1, by omega⟩
  · have := si i i0 i1
    omega
  · have e1 : i = 0 := by omega
    have e2 : j = 1 := by omega
    rw [e1, e2, hs0, hs1, u0, u1]
    omega
  · have := si i i0 i1
    omega
  · rw [hU c c0 c1]; split <;> omega
  · have := pd c c0 c1 cu
    omega
  · have g := (hD.2.2.1 c).mp hc
    rw [hU c g.1.1 g.1.2, if_pos (by omega)]
theorem zu_nq {M : zM} {a b v x y : Int} (h : x ≠ a ∨ y ≠ b) : zu M a b v x y = M x y := if_neg (fun c => h.elim (fun k => k c.1) (fun k => k c.2))
theorem e37 {M : zM} {n m : Nat} {b : Int → Int} {h gx gy : Int} {D : Int → Int} {x y q : Int} {d7 d8 d9 : zV} (r0 : zPC M) (hb : ∀ y, 0 ≤ y → y < 1024 → M 19 y = b y) (hD : zDF b h gx gy D) (hh : 1 ≤ h ∧ h ≤ 8) (hxy : zfr b x y) (hg : (0 ≤ gx ∧ gx ≤ 31) ∧ 0 ≤ gy ∧ gy ≤ 31) : ∃ v M', zex 37 0 [] [(2, 18), (0, x), (0, y), (0, q), (0, gx), (0, gy), (0, 4 * h), d7, d8, d9] M (zKs, n, m) = some ((0, v), M', (zKs, n, m)) ∧ (∀ r t, (r < 18 ∨ r = 19 ∨ 24 < r ∨ (r = 18 ∧ t ≠ 5) ∨ ((r = 21 ∨ r = 23) ∧ (t < 1 ∨ 2 < t))) → M' r t = M r t) ∧ zMe D ((y * 32 + x) * 2 + q % 2) v M' := by
  obtain ⟨f1, f2, f3⟩ := id hxy
  obtain ⟨g1, g2⟩ := hg
  have c223 : zex 223 0 [] [(2, 20), (0, 1073741824), (9, 0), (9, 0)] M (zKs, n, m) = some ((9, 0), zfl M 20 2048 1073741824, (zKs, n, m)) := e223 (n := 2048) (zk_20 n m) (by omega)
  have z20 : ∀ c : Int, 0 ≤ c → c < 2048 → zfl M 20 2048 1073741824 20 c = 1073741824 := fun c c0 c1 => zfl_in ⟨c0, c1⟩
  have zr : ∀ r y : Int, r ≠ 20 → zfl M 20 2048 1073741824 r y = M r y := fun r y hr => zfl_r hr
  generalize zfl M 20 2048 1073741824 = A at c223 z20 zr
  have rA : zPC A := zPC_t (fun r y => decide (r = 20)) (by decide +kernel) r0 (fun r y hr => zr r y (by simpa using hr))
  obtain ⟨C, hC⟩ : ∃ C, C = zu (zu (zu (zu (zu A 21 1 0) 21 2 0) 23 1 0) 23 2 0) 18 5 (4 * h) := ⟨_, rfl⟩
  have zC : ∀ r t, (r ≠ 18 ∨ t ≠ 5) → ((r ≠ 21 ∧ r ≠ 23) ∨ (t ≠ 1 ∧ t ≠ 2)) → C r t = A r t := fun r t h1 h2 => by
    rw [hC, zu_nq (by omega), zu_nq (by omega), zu_nq (by omega), zu_nq (by omega), zu_nq (by omega)]
  have rC : zPC C := zPC_t (fun r y => decide ((r = 18 ∧ y = 5) ∨ ((y = 1 ∨ y = 2) ∧ (r = 21 ∨ r = 23)))) (by decide +kernel) rA (fun r y hr => zC r y (by simp at hr; omega) (by simp at hr; omega))
  have c1 : C 21 1 = 0 := by rw [hC, zu_nq (by omega), zu_nq (by omega), zu_nq (by omega), zu_nq (by omega), zus]
  have c2 : C 21 2 = 0 := by rw [hC, zu_nq (by omega), zu_nq (by omega), zu_nq (by omega), zus]
  have c3 : C 23 1 = 0 := by rw [hC, zu_nq (by omega), zu_nq (by omega), zus]
  have c4 : C 23 2 = 0 := by rw [hC, zu_nq (by omega), zus]
  have c5 : C 18 5 = 4 * h := by rw [hC, zus]
  have c19 : ∀ t, C 19 t = M 19 t := fun t => by rw [zC _ _ (by omega) (by omega), zr _ _ (by omega)]
  have b4 : zu (zu A 21 1 0) 21 2 0 18 4 = 23 := by rw [zun (by omega), zun (by omega)]; exact zp_18_4 rA
  have P1 : (0 ≤ x ∧ x ≤ 31) ∧ (0 ≤ y ∧ y ≤ 31) ∧ C 19 (y * 32 + x) = 0 := ⟨f1, f2, by rw [c19, hb _ (by omega) (by omega), show y * 32 + x = 32 * y + x by omega]; exact f3⟩
  rw [q37_0, zg_pos ⟨zk_18 n m, by rw [zp_18_2 r0]; omega⟩, zp_18_2 r0, c223, zbN_ok, zg_pos ⟨zk_18 n m, by rw [zp_18_3 rA]; omega⟩, zp_18_3 rA, zg_pos (zk_21 n m), e45 (zk_21 n m), zbN_ok, zg_pos ⟨zk_18 n m, by rw [b4]; omega⟩, b4, zg_pos (zk_23 n m), e45 (zk_23 n m), zbN_ok, zg_pos (zk_18 n m), ← hC, e40 f1 f2, zbI_ok, zg_pos (zk_18 n m), e36 rC, zbI_ok, if_pos P1, if_neg (by omega), zg_pos (zk_18 n m), e36 rC, zbI_ok]
  by_cases G : zfr b gx gy
  · have P2 : (0 ≤ gx ∧ gx ≤ 31) ∧ (0 ≤ gy ∧ gy ≤ 31) ∧ C 19 (gy * 32 + gx) = 0 := ⟨g1, g2, by rw [c19, hb _ (by omega) (by omega), show gy * 32 + gx = 32 * gy + gx by omega]; exact G.2.2⟩
    have a0 := e43 (M := C) (n := n) (m := m) (a := 21) (x := (gy * 32 + gx) * 2 + 0 % 2) (v := 0) rC (.inl rfl) (by omega) ⟨by omega, fun _ => by omega⟩
    rw [if_neg (by rw [zC _ _ (by omega) (by omega), z20 _ (by omega) (by omega)]; omega), c2] at a0
    obtain ⟨C1, hC1⟩ : ∃ C1, C1 = zu (zu (zu C 20 ((gy * 32 + gx) * 2 + 0 % 2) 0) (21 + 1) 0 ((gy * 32 + gx) * 2 + 0 % 2)) 21 2 (0 + 1) := ⟨_, rfl⟩
    rw [← hC1] at a0
    have zC1 : ∀ r t, r ≠ 20 → r ≠ 22 → (r ≠ 21 ∨ t ≠ 2) → C1 r t = C r t := fun r t h1 h2 h3 => by rw [hC1, zu_nq h3, zu_nq (by omega), zu_nq (by omega)]
    have rC1 : zPC C1 := zPC_t (fun r y => decide (r = 20 ∨ r = 22 ∨ (r = 21 ∧ y = 2))) (by decide +kernel) rC (fun r y hr => zC1 r y (by simp at hr; omega) (by simp at hr; omega) (by simp at hr; omega))
    have d2 : C1 21 2 = 1 := by rw [hC1, zus]; rfl
    have d20 : ∀ t, C1 20 t = if t = (gy * 32 + gx) * 2 + 0 % 2 then 0 else C 20 t := fun t => by rw [hC1, zu_nq (by omega), zu_nq (by omega), zu_row]
    have a1 := e43 (M := C1) (n := n) (m := m) (a := 21) (x := (gy * 32 + gx) * 2 + 1 % 2) (v := 0) rC1 (.inl rfl) (by omega) ⟨by omega, fun _ => by omega⟩
    rw [if_neg (by rw [d20, if_neg (by omega), zC _ _ (by omega) (by omega), z20 _ (by omega) (by omega)]; omega), d2] at a1
    obtain ⟨C2, hC2⟩ : ∃ C2, C2 = zu (zu (zu C1 20 ((gy * 32 + gx) * 2 + 1 % 2) 0) (21 + 1) 1 ((gy * 32 + gx) * 2 + 1 % 2)) 21 2 (1 + 1) := ⟨_, rfl⟩
    rw [← hC2] at a1
    have zC2 : ∀ r t, r ≠ 20 → r ≠ 22 → (r ≠ 21 ∨ t ≠ 2) → C2 r t = C1 r t := fun r t h1 h2 h3 => by rw [hC2, zu_nq h3, zu_nq (by omega), zu_nq (by omega)]
    have rC2 : zPC C2 := zPC_t (fun r y => decide (r = 20 ∨ r = 22 ∨ (r = 21 ∧ y = 2))) (by decide +kernel) rC1 (fun r y hr => zC2 r y (by simp at hr; omega) (by simp at hr; omega) (by simp at hr; omega))
    have k2 : C2 21 2 = 2 := by rw [hC2, zus]; rfl
    have k20 : ∀ t, C2 20 t = if t = (gy * 32 + gx) * 2 + 1 % 2 then 0 else C1 20 t := fun t => by rw [hC2, zu_nq (by omega), zu_nq (by omega), zu_row]
    have s0 : C2 22 0 = (gy * 32 + gx) * 2 := by rw [hC2, zu_nq (by omega), zu_nq (by omega), zu_nq (by omega), hC1, zu_nq (by omega), show (21 : Int) + 1 = 22 by omega, zus]; omega
    have s1 : C2 22 1 = (gy * 32 + gx) * 2 + 1 := by rw [hC2, zu_nq (by omega), show (21 : Int) + 1 = 22 by omega, zus]; omega
    have J : zJM C2 b h D ((y * 32 + x) * 2 + q % 2) 0 (fun _ => 0) (-1) := by
      unfold zJM
      rw [k2, zC2 _ _ (by omega) (by omega) (by omega), zC2 23 1 (by omega) (by omega) (by omega), zC2 23 2 (by omega) (by omega) (by omega), zC1 _ _ (by omega) (by omega) (by omega), zC1 23 1 (by omega) (by omega) (by omega), zC1 23 2 (by omega) (by omega) (by omega), c1, c3, c4]
      refine zJ_0 hD G (by omega) (fun c c0 c1' => ?_) ⟨s0, s1⟩
      rw [k20, d20, zC _ _ (by omega) (by omega), z20 c c0 c1']
      by_cases e1 : c = (gy * 32 + gx) * 2 + 1
      · rw [if_pos (by omega), if_pos (by omega)]
      · by_cases e2 : c = (gy * 32 + gx) * 2
        · rw [if_neg (by omega), if_pos (by omega), if_pos (by omega)]
        · rw [if_neg (by omega), if_neg (by omega), if_neg (by omega)]
    have fr : ∀ r t, (r < 18 ∨ r = 19 ∨ 24 < r ∨ (r = 18 ∧ t ≠ 5) ∨ ((r = 21 ∨ r = 23) ∧ (t < 1 ∨ 2 < t))) → C2 r t = M r t := fun r t hr => by
      rw [zC2 _ _ (by omega) (by omega) (by omega), zC1 _ _ (by omega) (by omega) (by omega), zC _ _ (by omega) (by omega), zr _ _ (by omega)]
    obtain ⟨v, M', p1, p2, p3⟩ := e37_lp (n := n) (m := m) (x1 := x) (x2 := y) (x3 := q) (x4 := gx) (x5 := gy) (x6 := 4 * h) hD hh (by omega) 4096 C2 0 (fun _ => 0) 0 d9 (by omega) (by omega) (by rw [zC2 _ _ (by omega) (by omega) (by omega), zC2 23 1 (by omega) (by omega) (by omega), zC1 _ _ (by omega) (by omega) (by omega), zC1 23 1 (by omega) (by omega) (by omega), c1, c3]; omega) rC2 (fun t t0 t1 => by rw [fr _ _ (by omega)]; exact hb t t0 t1) (by rw [zC2 _ _ (by omega) (by omega) (by omega), zC1 _ _ (by omega) (by omega) (by omega)]; exact c5) J
    refine ⟨v, M', ?_, fun r t hr => by rw [p2 r t (by omega), fr r t hr], p3⟩
    rw [if_pos P2, if_neg (by omega), e40 g1 g2, zbI_ok, zg_pos ⟨zk_18 n m, by rw [zp_18_3 rC]; omega⟩, zp_18_3 rC, zg_pos (zk_18 n m), a0, zbN_ok, e40 g1 g2, zbI_ok, zg_pos ⟨zk_18 n m, by rw [zp_18_3 rC1]; omega⟩, zp_18_3 rC1, zg_pos (zk_18 n m), a1, zbN_ok]
    exact p1
  · have P2 : ¬ ((0 ≤ gx ∧ gx ≤ 31) ∧ (0 ≤ gy ∧ gy ≤ 31) ∧ C 19 (gy * 32 + gx) = 0) := fun c => G ⟨g1, g2, by
      have := c.2.2
      rw [c19, hb _ (by omega) (by omega), show gy * 32 + gx = 32 * gy + gx by omega] at this
      exact this⟩
    refine ⟨-1, C, by rw [if_neg P2, if_pos rfl, q37_28], fun r t hr => by rw [zC _ _ (by omega) (by omega), zr _ _ (by omega)], .inl ⟨rfl, ?_⟩⟩
    have d4 := hD.2.2.2 ((y * 32 + x) * 2 + q % 2)
    by_cases e : D ((y * 32 + x) * 2 + q % 2) = -1
    · exact e
    · exact (zD_no hD hh G (D ((y * 32 + x) * 2 + q % 2)).toNat ((y * 32 + x) * 2 + q % 2) (by omega) (by omega)).elim
