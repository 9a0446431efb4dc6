/-! THE CLASS'S RUNS: roll -/
theorem ztd2 {a : Int} (h : 0 ≤ a) : Int.tdiv a 2 = a / 2 := Int.tdiv_eq_ediv_of_nonneg h
/-- how many units until the direction changes -/
def zal (f ph t : Int) : Int := if t = 2 ∨ t = -2 then ((if t ≤ 0 then f + ph else f - ph) + 1) / 2 else if t ≤ 0 then f + ph else f - ph
theorem e57 {M : zM} {X : zX} {r t f : Int} {d : zV} (h : zkd X r = (11, 0)) (hf : 0 ≤ f ∧ f ≤ 100) (hp : -f ≤ M r 3 ∧ M r 3 ≤ f) : zex 57 0 [] [(2, r), (0, t), (0, f), d] M X = some ((0, zal f (M r 3) t), M, X) := by
  unfold zal
  by_cases e1 : t ≤ 0
  · by_cases e2 : t = 2
    · omega
    · by_cases e3 : t = -2
      · simp (disch := omega) only [q57_0, q57_11, q57_18, q57_25, h, e3, ztd2, zg_pos, zI, ↓reduceIte, Int.reduceEq, Int.reduceLE, Int.reduceLT, Int.reduceAdd, Int.reduceSub, Int.reduceMul, Int.reduceNeg, zg_T, zbI_ok, zbL_ok, zbN_ok, zite1, zite2, zite3, zem, Int.cast_ofNat_Int, and_self, and_true, true_and, or_true, true_or, or_self, ite_not, if_true, if_false, not_true_eq_false, not_false_eq_true]
      · simp (disch := omega) only [q57_0, q57_11, q57_25, h, e1, e2, e3, zg_pos, zI, ↓reduceIte, Int.reduceEq, Int.reduceLE, Int.reduceLT, Int.reduceAdd, Int.reduceSub, Int.reduceMul, Int.reduceNeg, zg_T, zbI_ok, zbL_ok, zbN_ok, zite1, zite2, zite3, zem, Int.cast_ofNat_Int, and_self, and_true, true_and, or_true, true_or, or_self, ite_not, if_true, if_false, not_true_eq_false, not_false_eq_true]
  · by_cases e2 : t = 2
    · simp (disch := omega) only [q57_0, q57_11, q57_18, q57_25, h, e2, ztd2, zg_pos, zI, ↓reduceIte, Int.reduceEq, Int.reduceLE, Int.reduceLT, Int.reduceAdd, Int.reduceSub, Int.reduceMul, Int.reduceNeg, zg_T, zbI_ok, zbL_ok, zbN_ok, zite1, zite2, zite3, zem, Int.cast_ofNat_Int, and_self, and_true, true_and, or_true, true_or, or_self, ite_not, if_true, if_false, not_true_eq_false, not_false_eq_true]
    · by_cases e3 : t = -2
      · omega
      · simp (disch := omega) only [q57_0, q57_11, q57_25, h, e1, e2, e3, zg_pos, zI, ↓reduceIte, Int.reduceEq, Int.reduceLE, Int.reduceLT, Int.reduceAdd, Int.reduceSub, Int.reduceMul, Int.reduceNeg, zg_T, zbI_ok, zbL_ok, zbN_ok, zite1, zite2, zite3, zem, Int.cast_ofNat_Int, and_self, and_true, true_and, or_true, true_or, or_self, ite_not, if_true, if_false, not_true_eq_false, not_false_eq_true]
theorem e58 {M : zM} {X : zX} {r h : Int} (hk : zkd X r = (11, 0)) (hh : 1 ≤ h ∧ h ≤ 8) (hd : 0 ≤ M r 2 ∧ M r 2 ≤ 15) (hp : -100 ≤ M r 3 ∧ M r 3 ≤ 100) : ∃ M', zex 58 0 [] [(2, r), (0, 2 * h)] M X = some ((9, 0), M', X) ∧ M' r 2 = zcd h (M r 2) (M r 3) ∧ M' r 3 = zcp h (M r 3) ∧ ∀ x y, (x ≠ r ∨ (y ≠ 2 ∧ y ≠ 3)) → M' x y = M x y := by
  by_cases m1 : 2 * h ≤ M r 3
  · have m2 : ¬ M r 3 < 2 * h := by omega
    refine ⟨zu (zu M r 3 (M r 3 - 2 * h)) r 2 ((M r 2 + 1) % 16), ?_, ?_, ?_, fun x y hx => ?_⟩
    · simp (disch := omega) only [q58_0, q58_10, q58_18, q58_38, hk, m2, zun2, zg_pos, zI, ↓reduceIte, Int.reduceEq, Int.reduceLE, Int.reduceLT, Int.reduceAdd, Int.reduceSub, Int.reduceMul, Int.reduceNeg, zg_T, zbI_ok, zbL_ok, zbN_ok, zite1, zite2, zite3, zem, Int.cast_ofNat_Int, and_self, and_true, true_and, or_true, true_or, or_self, ite_not, if_true, if_false, not_true_eq_false, not_false_eq_true]
    · unfold zcd; rw [if_pos m1, zus]
    · unfold zcp; rw [if_pos m1, zun2 (by omega), zus]
    · by_cases e : x = r
      · rw [zun2 (by omega), zun2 (by omega)]
      · rw [zun e, zun e]
  · have m2 : M r 3 < 2 * h := by omega
    by_cases m3 : M r 3 ≤ -(2 * h)
    · have m4 : ¬ -(2 * h) < M r 3 := by omega
      refine ⟨zu (zu M r 3 (M r 3 + 2 * h)) r 2 ((M r 2 - 1) % 16), ?_, ?_, ?_, fun x y hx => ?_⟩
      · simp (disch := omega) only [q58_0, q58_30, q58_38, hk, m2, m4, zun2, zg_pos, zI, ↓reduceIte, Int.reduceEq, Int.reduceLE, Int.reduceLT, Int.reduceAdd, Int.reduceSub, Int.reduceMul, Int.reduceNeg, zg_T, zbI_ok, zbL_ok, zbN_ok, zite1, zite2, zite3, zem, Int.cast_ofNat_Int, and_self, and_true, true_and, or_true, true_or, or_self, ite_not, if_true, if_false, not_true_eq_false, not_false_eq_true]
      · unfold zcd; rw [if_neg m1, if_pos m3, zus]; omega
      · unfold zcp; rw [if_neg m1, if_pos m3, zun2 (by omega), zus]
      · by_cases e : x = r
        · rw [zun2 (by omega), zun2 (by omega)]
        · rw [zun e, zun e]
    · have m4 : -(2 * h) < M r 3 := by omega
      refine ⟨M, ?_, ?_, ?_, fun x y hx => rfl⟩
      · simp (disch := omega) only [q58_0, q58_38, hk, m2, m4, zg_pos, zI, ↓reduceIte, Int.reduceEq, Int.reduceLE, Int.reduceLT, Int.reduceAdd, Int.reduceSub, Int.reduceMul, Int.reduceNeg, zg_T, zbI_ok, zbL_ok, zbN_ok, zite1, zite2, zite3, zem, Int.cast_ofNat_Int, and_self, and_true, true_and, or_true, true_or, or_self, ite_not, if_true, if_false, not_true_eq_false, not_false_eq_true]
      · unfold zcd; rw [if_neg m1, if_neg m3]
      · unfold zcp; rw [if_neg m1, if_neg m3]
def zPo (M : zM) (r : Int) (p : zT4) : Prop := M r 0 = p.1 ∧ M r 1 = p.2.1 ∧ M r 2 = p.2.2.1 ∧ M r 3 = p.2.2.2
theorem zsv0 {M : zM} {d : Int} (hd : 0 ≤ d ∧ d ≤ 15) : zsv M 0 (d % 16) = zhx d := by
  rw [show d % 16 = d by omega]; rfl
theorem zsv1 {M : zM} {d : Int} (hd : 0 ≤ d ∧ d ≤ 15) : zsv M 1 (d % 16) = zhy d := by
  rw [show d % 16 = d by omega]; rfl
theorem zr4_it {h l r : Int} {p : zT4} (hh : 1 ≤ h) (hl : z1 l) (hr : z1 r) : ∀ (n : Nat) (b : Int), zPk h b p → zPk h (b + 1000 * n) (zit (zr4 h l r) n p)
  | 0, b, hp => by rw [show b + 1000 * ((0 : Nat) : Int) = b by omega]; exact hp
  | n + 1, b, hp => by
    rw [zit_s, show b + 1000 * ((n + 1 : Nat) : Int) = b + 1000 * n + 1000 by omega]
    exact zr4_ok hh hl hr (zr4_it hh hl hr n b hp)
/-- one turn of roll's loop: a units, all alike -/
theorem e56_b {M : zM} {X : zX} {r l rr u h rest taken a b : Int} {p : zT4} (hk : zkd X r = (11, 0)) (hh : 1 ≤ h ∧ h ≤ 8) (hl : z1 l) (hr : z1 rr) (hp : zPk h b p) (hP : zPo M r p) (ha : 1 ≤ a ∧ a ≤ rest) (hrest : rest ≤ 10000) (ht : 0 ≤ taken ∧ taken ≤ 10000) (hb : 0 ≤ b ∧ b ≤ 1000000000) (hch : ∀ i : Nat, 1 ≤ i → (i : Int) < a → -(2 * h) < p.2.2.2 + i * (rr - l) ∧ p.2.2.2 + i * (rr - l) < 2 * h) : ∃ M', zex 56 31 [] [(2, r), (0, l), (0, rr), (0, u), (0, h), (0, l + rr), (0, rr - l), (0, rest), (0, taken), (0, a)] M X = zex 56 12 [] [(2, r), (0, l), (0, rr), (0, u), (0, h), (0, l + rr), (0, rr - l), (0, rest - a), (0, taken + 1), (0, a)] M' X ∧ zPo M' r (zit (zr4 h l rr) a.toNat p) ∧ ∀ x y, (x ≠ r ∨ y < 0 ∨ 3 < y) → M' x y = M x y := by
  obtain ⟨p0, p1, p2, p3⟩ := hP
  obtain ⟨a1, a2, a3, a4, a5⟩ := hp
  obtain ⟨e1, e2⟩ := zh_le a3
  have g1 := zgo_le hl hr e1
  have g2 := zgo_le hl hr e2
  have m1 := zmul_le (n := a) (by omega) g1.1 g1.2
  have m2 := zmul_le (n := a) (by omega) g2.1 g2.2
  rw [← Int.mul_assoc] at m1 m2
  have m3 : -(a * 2) ≤ a * (l + rr) ∧ a * (l + rr) ≤ a * 2 := zmul_le (by omega) (by unfold z1 at hl hr; omega) (by unfold z1 at hl hr; omega)
  have hch' : ∀ i : Nat, 1 ≤ i → i < (a - 1).toNat + 1 → -(2 * h) < p.2.2.2 + i * (rr - l) ∧ p.2.2.2 + i * (rr - l) < 2 * h := fun i h1 h2 => hch i h1 (by omega)
  have many := zr4_many (h := h) (l := l) (r := rr) (p := p) (a - 1).toNat hch'
  rw [show (a - 1).toNat + 1 = a.toNat by omega, show (((a - 1).toNat : Nat) : Int) + 1 = a by omega] at many
  have hlast : -20 ≤ p.2.2.2 + a * (rr - l) ∧ p.2.2.2 + a * (rr - l) ≤ 20 := by
    unfold z1 at hl hr
    by_cases ea : a = 1
    · rw [ea, Int.one_mul]; omega
    · have := hch (a - 1).toNat (by omega) (by omega)
      rw [show (((a - 1).toNat : Nat) : Int) = a - 1 by omega, Int.sub_mul, Int.one_mul] at this
      omega
  have hs : ∀ (N : zM), N r 2 = p.2.2.1 → zsv N 0 (N r 2 % 16) = zhx p.2.2.1 ∧ zsv N 1 (N r 2 % 16) = zhy p.2.2.1 := fun N hN => by rw [hN]; exact ⟨zsv0 a3, zsv1 a3⟩
  have z16 : ∀ (N : zM), zsl N 0 = 16 ∧ zsl N 1 = 16 := fun N => ⟨rfl, rfl⟩
  have w0 : zu M r 0 (p.1 + a * (l + rr) * zhx p.2.2.1) r 2 = p.2.2.1 := by rw [zun2 (by omega), p2]
  have s1 : zex 56 31 [] [(2, r), (0, l), (0, rr), (0, u), (0, h), (0, l + rr), (0, rr - l), (0, rest), (0, taken), (0, a)] M X = zex 56 69 [] [(2, r), (0, l), (0, rr), (0, u), (0, h), (0, l + rr), (0, rr - l), (0, rest), (0, taken), (0, a)] (zu (zu (zu M r 0 (p.1 + a * (l + rr) * zhx p.2.2.1)) r 1 (p.2.1 + a * (l + rr) * zhy p.2.2.1)) r 3 (p.2.2.2 + a * (rr - l))) X := by
    have i1 : zI (a * (rr - l)) := by
      have m4 : -(a * 2) ≤ a * (rr - l) ∧ a * (rr - l) ≤ a * 2 := zmul_le (by omega) (by unfold z1 at hl hr; omega) (by unfold z1 at hl hr; omega)
      unfold zI; omega
    have i2 : zI (a * (l + rr)) := by unfold zI; omega
    have i3 : zI (a * (l + rr) * zhx p.2.2.1) := by unfold zI; omega
    have i4 : zI (a * (l + rr) * zhy p.2.2.1) := by unfold zI; omega
    have i5 : zI (p.1 + a * (l + rr) * zhx p.2.2.1) := by unfold zI; omega
    have i6 : zI (p.2.1 + a * (l + rr) * zhy p.2.2.1) := by unfold zI; omega
    have i7 : zI (p.2.2.2 + a * (rr - l)) := by unfold zI; omega
    rw [q56_31, zg_pos hk, zg_pos i2, zg_pos hk, zg_pos (by omega), zg_pos ⟨rfl, by omega, by rw [(z16 M).1]; omega⟩]
    rw [show (15 : Int) + 1 = 16 by omega, (hs M p2).1, p0, zg_pos i3, zg_pos i5, zg_pos hk]
    rw [q56_46, zg_pos hk, zg_pos i2, zg_pos hk, zg_pos (by omega), zg_pos ⟨rfl, by omega, by rw [(z16 _).2]; omega⟩]
    rw [show (15 : Int) + 1 = 16 by omega, (hs _ w0).2, zun2 (by omega), p1, zg_pos i4, zg_pos i6, zg_pos hk]
    rw [q56_61, zg_pos hk, zg_pos i1, zun2 (by omega), zun2 (by omega), p3, zg_pos i7, zg_pos hk]
  generalize hQ : zu (zu (zu M r 0 (p.1 + a * (l + rr) * zhx p.2.2.1)) r 1 (p.2.1 + a * (l + rr) * zhy p.2.2.1)) r 3 (p.2.2.2 + a * (rr - l)) = Q at s1
  have c0 : Q r 0 = p.1 + a * (l + rr) * zhx p.2.2.1 := by rw [← hQ, zun2 (by omega), zun2 (by omega), zus]
  have c1 : Q r 1 = p.2.1 + a * (l + rr) * zhy p.2.2.1 := by rw [← hQ, zun2 (by omega), zus]
  have c2 : Q r 2 = p.2.2.1 := by rw [← hQ, zun2 (by omega), zun2 (by omega), zun2 (by omega), p2]
  have c3 : Q r 3 = p.2.2.2 + a * (rr - l) := by rw [← hQ, zus]
  have c4 : ∀ x y, (x ≠ r ∨ y < 0 ∨ 3 < y) → Q x y = M x y := fun x y hx => by
    rw [← hQ]
    by_cases e : x = r
    · rw [zun2 (by omega), zun2 (by omega), zun2 (by omega)]
    · rw [zun e, zun e, zun e]
  obtain ⟨R, t1, t2, t3, t4⟩ := e58 (M := Q) hk hh (by omega) (by omega)
  refine ⟨R, ?_, ?_, fun x y hx => by rw [t4 _ _ (by omega), c4 _ _ hx]⟩
  · rw [s1, q56_69, zg_pos (by unfold zI; omega), zg_pos hk, t1, zbN_ok, zg_pos (by unfold zI; omega), zg_pos (by unfold zI; omega)]
  · rw [many]
    refine ⟨?_, ?_, ?_, ?_⟩
    · rw [t4 _ _ (by omega), c0]; rfl
    · rw [t4 _ _ (by omega), c1]; rfl
    · rw [t2, c2, c3]; rfl
    · rw [t3, c3]; rfl
theorem zal_1 {h ph t : Int} (hh : 1 ≤ h) (h1 : -(2 * h) < ph) (h2 : ph < 2 * h) : 1 ≤ zal (2 * h) ph t := by
  unfold zal
  split
  · split <;> omega
  · split <;> omega
theorem zal_c {h ph t a : Int} (ht : -2 ≤ t ∧ t ≤ 2) (h1 : -(2 * h) < ph) (h2 : ph < 2 * h) (ha : a ≤ zal (2 * h) ph t ∨ t = 0) {i : Int} (hi : 1 ≤ i ∧ i < a) : -(2 * h) < ph + i * t ∧ ph + i * t < 2 * h := by
  rcases (by omega : t = -2 ∨ t = -1 ∨ t = 0 ∨ t = 1 ∨ t = 2) with rfl | rfl | rfl | rfl | rfl
  · rcases ha with ha | ha
    · unfold zal at ha
      rw [if_pos (by omega), if_pos (by omega)] at ha
      omega
    · omega
  · rcases ha with ha | ha
    · unfold zal at ha
      rw [if_neg (by omega), if_pos (by omega)] at ha
      omega
    · omega
  · omega
  · rcases ha with ha | ha
    · unfold zal at ha
      rw [if_neg (by omega), if_neg (by omega)] at ha
      omega
    · omega
  · rcases ha with ha | ha
    · unfold zal at ha
      rw [if_pos (by omega), if_neg (by omega)] at ha
      omega
    · omega
theorem e56_l {X : zX} {r l rr u h : Int} (hk : zkd X r = (11, 0)) (hh : 1 ≤ h ∧ h ≤ 8) (hl : z1 l) (hr : z1 rr) (hu : u ≤ 5000) : ∀ (q : Nat) (rest taken b : Int) (M : zM) (p : zT4) (d9 : zV), rest ≤ q → 0 ≤ rest → 0 ≤ taken → taken + rest ≤ u → zPk h b p → zPo M r p → 0 ≤ b → b + 1000 * rest ≤ 1000000000 → ∃ M', zex 56 12 [] [(2, r), (0, l), (0, rr), (0, u), (0, h), (0, l + rr), (0, rr - l), (0, rest), (0, taken), d9] M X = some ((9, 0), M', X) ∧ zPo M' r (zit (zr4 h l rr) rest.toNat p) ∧ ∀ x y, (x ≠ r ∨ y < 0 ∨ 3 < y) → M' x y = M x y
  | 0, rest, taken, b, M, p, d9, h1, h2, h3, h4, h5, h6, h7, h8 => by
    refine ⟨M, ?_, by rw [show rest.toNat = 0 by omega]; exact h6, fun x y _ => rfl⟩
    rw [q56_12]
    by_cases e : u ≤ taken
    · rw [if_pos e, q56_80]
    · rw [if_neg e, if_pos (by omega), q56_80]
  | q + 1, rest, taken, b, M, p, d9, h1, h2, h3, h4, h5, h6, h7, h8 => by
    by_cases e0 : rest ≤ 0
    · refine ⟨M, ?_, by rw [show rest.toNat = 0 by omega]; exact h6, fun x y _ => rfl⟩
      rw [q56_12]
      by_cases e : u ≤ taken
      · rw [if_pos e, q56_80]
      · rw [if_neg e, if_pos (by omega), q56_80]
    · have k := h5.2.2.2
      have ht : -2 ≤ rr - l ∧ rr - l ≤ 2 := by unfold z1 at hl hr; omega
      have hp3 := h6.2.2.2
      have v1 := e57 (M := M) (X := X) (r := r) (t := rr - l) (f := 2 * h) (d := (9, 0)) hk (by omega) (by rw [hp3]; omega)
      rw [hp3] at v1
      have v2 := zal_1 (t := rr - l) hh.1 k.1 k.2
      obtain ⟨a, a1, a2, a3⟩ : ∃ a, (1 ≤ a ∧ a ≤ rest) ∧ (a ≤ zal (2 * h) p.2.2.2 (rr - l) ∨ rr - l = 0) ∧ zex 56 12 [] [(2, r), (0, l), (0, rr), (0, u), (0, h), (0, l + rr), (0, rr - l), (0, rest), (0, taken), d9] M X = zex 56 31 [] [(2, r), (0, l), (0, rr), (0, u), (0, h), (0, l + rr), (0, rr - l), (0, rest), (0, taken), (0, a)] M X := by
        have s : zex 56 12 [] [(2, r), (0, l), (0, rr), (0, u), (0, h), (0, l + rr), (0, rr - l), (0, rest), (0, taken), d9] M X = if rest < zal (2 * h) p.2.2.2 (rr - l) then zex 56 29 [] [(2, r), (0, l), (0, rr), (0, u), (0, h), (0, l + rr), (0, rr - l), (0, rest), (0, taken), (0, zal (2 * h) p.2.2.2 (rr - l))] M X else if rr - l = 0 then zex 56 29 [] [(2, r), (0, l), (0, rr), (0, u), (0, h), (0, l + rr), (0, rr - l), (0, rest), (0, taken), (0, zal (2 * h) p.2.2.2 (rr - l))] M X else zex 56 31 [] [(2, r), (0, l), (0, rr), (0, u), (0, h), (0, l + rr), (0, rr - l), (0, rest), (0, taken), (0, zal (2 * h) p.2.2.2 (rr - l))] M X := by
          rw [q56_12, if_neg (by omega), if_neg e0, zg_pos (by unfold zI; omega), zg_pos hk, v1, zbI_ok]
        by_cases f1 : rest < zal (2 * h) p.2.2.2 (rr - l)
        · exact ⟨rest, by omega, .inl (by omega), by rw [s, if_pos f1, q56_29]⟩
        · by_cases f2 : rr - l = 0
          · exact ⟨rest, by omega, .inr f2, by rw [s, if_neg f1, if_pos f2, q56_29]⟩
          · exact ⟨zal (2 * h) p.2.2.2 (rr - l), by omega, .inl (by omega), by rw [s, if_neg f1, if_neg f2]⟩
      obtain ⟨M1, m1, m2, m3⟩ := e56_b (u := u) (rest := rest) (taken := taken) hk hh hl hr h5 h6 a1 (by omega) (by omega) (by omega) (fun i i0 i1 => zal_c ht k.1 k.2 a2 ⟨by omega, i1⟩)
      have ok := zr4_it hh.1 hl hr a.toNat b h5
      rw [show ((a.toNat : Nat) : Int) = a by omega] at ok
      obtain ⟨M2, n1, n2, n3⟩ := e56_l hk hh hl hr hu q (rest - a) (taken + 1) (b + 1000 * a) M1 _ (0, a) (by omega) (by omega) (by omega) (by omega) ok m2 (by omega) (by omega)
      refine ⟨M2, by rw [a3, m1, n1], ?_, fun x y hx => by rw [n3 _ _ hx, m3 _ _ hx]⟩
      rw [← zit_add, show a.toNat + (rest - a).toNat = rest.toNat by omega] at n2
      exact n2
theorem e56 {M : zM} {X : zX} {r l rr u h b : Int} {p : zT4} {d5 d6 d7 d8 d9 : zV} (hk : zkd X r = (11, 0)) (hh : 1 ≤ h ∧ h ≤ 8) (hl : z1 l) (hr : z1 rr) (hu : 0 ≤ u ∧ u ≤ 5000) (hp : zPk h b p) (hP : zPo M r p) (hb : 0 ≤ b ∧ b ≤ 900000000) : ∃ M', zex 56 0 [] [(2, r), (0, l), (0, rr), (0, u), (0, h), d5, d6, d7, d8, d9] M X = some ((9, 0), M', X) ∧ zPo M' r (zit (zr4 h l rr) u.toNat p) ∧ ∀ x y, (x ≠ r ∨ y < 0 ∨ 3 < y) → M' x y = M x y := by
  obtain ⟨M', m1, m2, m3⟩ := e56_l (u := u) hk hh hl hr hu.2 u.toNat u 0 b M p d9 (by omega) hu.1 (by omega) (by omega) hp hP hb.1 (by omega)
  refine ⟨M', ?_, m2, m3⟩
  rw [q56_0, zg_pos (by unfold z1 at hl hr; unfold zI; omega), zg_pos (by unfold z1 at hl hr; unfold zI; omega), m1]
