/-! KEEP AND BACK -/
/-- rows b .. b + w from o on become rows s .. from p on, n places -/
def zrc (M : zM) (b w o s p n : Int) : zM := fun x y => if b ≤ x ∧ x ≤ b + w ∧ o ≤ y ∧ y < o + n then M (x - b + s) (y - o + p) else M x y
theorem zrc_0 {M : zM} {b w o s p : Int} : zrc M b w o s p 0 = M := by
  funext x y
  unfold zrc
  rw [if_neg (by omega)]
theorem zrc_r {M : zM} {b w o s p n x y : Int} (h : x < b ∨ b + w < x) : zrc M b w o s p n x y = M x y := by
  unfold zrc
  rw [if_neg (by omega)]
theorem zrc_out {M : zM} {b w o s p n x y : Int} (h : y < o ∨ o + n ≤ y) : zrc M b w o s p n x y = M x y := by
  unfold zrc
  rw [if_neg (by omega)]
theorem zrc_in {M : zM} {b w o s p n x y : Int} (h : b ≤ x ∧ x ≤ b + w ∧ o ≤ y ∧ y < o + n) : zrc M b w o s p n x y = M (x - b + s) (y - o + p) := by
  unfold zrc
  rw [if_pos h]
theorem zrc_s {M : zM} {b o s p t : Int} (ht : 0 ≤ t) : zu (zu (zu (zrc M b 2 o s p t) b (o + t) (M s (p + t))) (b + 1) (o + t) (M (s + 1) (p + t))) (b + 2) (o + t) (M (s + 2) (p + t)) = zrc M b 2 o s p (t + 1) := by
  funext x y
  simp only [zu_at, zrc]
  by_cases hy : y = o + t
  · subst hy
    by_cases e1 : x = b + 2
    · subst e1
      rw [if_pos ⟨rfl, rfl⟩, if_pos (by omega), show b + 2 - b + s = s + 2 by omega, show o + t - o + p = p + t by omega]
    · rw [if_neg (fun c => e1 c.1)]
      by_cases e2 : x = b + 1
      · subst e2
        rw [if_pos ⟨rfl, rfl⟩, if_pos (by omega), show b + 1 - b + s = s + 1 by omega, show o + t - o + p = p + t by omega]
      · rw [if_neg (fun c => e2 c.1)]
        by_cases e3 : x = b
        · subst e3
          rw [if_pos ⟨rfl, rfl⟩, if_pos (by omega), show x - x + s = s by omega, show o + t - o + p = p + t by omega]
        · rw [if_neg (fun c => e3 c.1), if_neg (by omega), if_neg (by omega)]
  · rw [if_neg (fun c => hy c.2), if_neg (fun c => hy c.2), if_neg (fun c => hy c.2)]
    by_cases e4 : b ≤ x ∧ x ≤ b + 2 ∧ o ≤ y ∧ y < o + t
    · rw [if_pos e4, if_pos (by omega)]
    · rw [if_neg e4, if_neg (by omega)]
theorem zrc_s1 {M : zM} {b o s p t : Int} (ht : 0 ≤ t) : zu (zu (zrc M b 1 o s p t) b (o + t) (M s (p + t))) (b + 1) (o + t) (M (s + 1) (p + t)) = zrc M b 1 o s p (t + 1) := by
  funext x y
  simp only [zu_at, zrc]
  by_cases hy : y = o + t
  · subst hy
    by_cases e2 : x = b + 1
    · subst e2
      rw [if_pos ⟨rfl, rfl⟩, if_pos (by omega), show b + 1 - b + s = s + 1 by omega, show o + t - o + p = p + t by omega]
    · rw [if_neg (fun c => e2 c.1)]
      by_cases e3 : x = b
      · subst e3
        rw [if_pos ⟨rfl, rfl⟩, if_pos (by omega), show x - x + s = s by omega, show o + t - o + p = p + t by omega]
      · rw [if_neg (fun c => e3 c.1), if_neg (by omega), if_neg (by omega)]
  · rw [if_neg (fun c => hy c.2), if_neg (fun c => hy c.2)]
    by_cases e4 : b ≤ x ∧ x ≤ b + 1 ∧ o ≤ y ∧ y < o + t
    · rw [if_pos e4, if_pos (by omega)]
    · rw [if_neg e4, if_neg (by omega)]
/-- what a cart is that became another -/
theorem zbc_1 {M : zM} {c d n i x y : Int} (hx : x = c + 1) (hy : 0 ≤ y ∧ y < i) : zbc M c d n i x y = M (d + 1) y := by
  subst hx
  simp (disch := omega) only [zbc, hy, if_neg, ↓reduceIte, Int.reduceEq, Int.reduceLE, Int.reduceLT, Int.reduceAdd, Int.reduceSub, Int.reduceMul, Int.reduceNeg, zg_T, zbI_ok, zbL_ok, zbN_ok, zite1, zite2, zite3, zem, Int.cast_ofNat_Int, and_self, and_true, true_and, or_true, true_or, or_self, ite_not, if_true, if_false, not_true_eq_false, not_false_eq_true]
theorem zbc_2 {M : zM} {c d n i x y : Int} (hx : x = c + 2) (hy : 0 ≤ y ∧ y < i) : zbc M c d n i x y = M (d + 2) y := by
  subst hx
  simp (disch := omega) only [zbc, hy, if_neg, ↓reduceIte, Int.reduceEq, Int.reduceLE, Int.reduceLT, Int.reduceAdd, Int.reduceSub, Int.reduceMul, Int.reduceNeg, zg_T, zbI_ok, zbL_ok, zbN_ok, zite1, zite2, zite3, zem, Int.cast_ofNat_Int, and_self, and_true, true_and, or_true, true_or, or_self, ite_not, if_true, if_false, not_true_eq_false, not_false_eq_true]
theorem zbc_3 {M : zM} {c d n i x y : Int} (hx : x = c + 3) (hy : 0 ≤ y ∧ y < i) : zbc M c d n i x y = M (d + 3) y := by
  subst hx
  simp (disch := omega) only [zbc, hy, if_neg, ↓reduceIte, Int.reduceEq, Int.reduceLE, Int.reduceLT, Int.reduceAdd, Int.reduceSub, Int.reduceMul, Int.reduceNeg, zg_T, zbI_ok, zbL_ok, zbN_ok, zite1, zite2, zite3, zem, Int.cast_ofNat_Int, and_self, and_true, true_and, or_true, true_or, or_self, ite_not, if_true, if_false, not_true_eq_false, not_false_eq_true]
theorem zkc_r {M : zM} {c d x y : Int} (hx : x < c ∨ c + 14 < x ∨ x = c + 1) : zkc M c d x y = M x y := by
  unfold zkc
  rw [zun (by omega), zun (by omega), zcpy_r (by omega), zbc_r (by omega), zbc_r (by omega), zbc_r (by omega)]
theorem zkc_0 {M : zM} {c d y : Int} (hy : y < 2) : zkc M c d c y = M c y := by
  unfold zkc
  rw [zun2 (by omega), zun2 (by omega), zcpy_r (by omega), zbc_r (by omega), zbc_r (by omega), zbc_r (by omega)]
theorem zkc_2 {M : zM} {c d : Int} : zkc M c d c 2 = M d 2 := by
  unfold zkc
  rw [zun2 (by omega), zus]
theorem zkc_3 {M : zM} {c d : Int} : zkc M c d c 3 = M d 3 := by
  unfold zkc
  rw [zus]
theorem zkc_p {M : zM} {c d y : Int} (hcd : c + 14 < d ∨ d + 14 < c) (hy : 0 ≤ y ∧ y ≤ 800) : zkc M c d (c + 2) y = M (d + 2) y := by
  unfold zkc
  rw [zun (by omega), zun (by omega), zcpy_in (by omega), zbc_r (by omega), zbc_r (by omega), zbc_r (by omega), show 0 + (y - 0) = y by omega]
theorem zkc_f {M : zM} {c d a y : Int} (ha : 0 ≤ a ∧ a ≤ 2) (hy : 0 < y) : zkc M c d (c + 3 + 4 * a) y = M (c + 3 + 4 * a) y := by
  unfold zkc
  rw [zun (by omega), zun (by omega), zcpy_r (by omega)]
  rcases (by omega : a = 0 ∨ a = 1 ∨ a = 2) with rfl | rfl | rfl
  · rw [zbc_r (by omega), zbc_r (by omega), show c + 3 + 4 * 0 = c + 3 by omega, zbc_c (by omega)]
  · rw [zbc_r (by omega), show c + 3 + 4 * 1 = c + 7 by omega, zbc_c (by omega), zbc_r (by omega)]
  · rw [show c + 3 + 4 * 2 = c + 11 by omega, zbc_c (by omega), zbc_r (by omega), zbc_r (by omega)]
theorem zkc_n {M : zM} {c d a : Int} (ha : 0 ≤ a ∧ a ≤ 2) : zkc M c d (c + 3 + 4 * a) 0 = M (d + 3 + 4 * a) 0 := by
  unfold zkc
  rw [zun (by omega), zun (by omega), zcpy_r (by omega)]
  rcases (by omega : a = 0 ∨ a = 1 ∨ a = 2) with rfl | rfl | rfl
  · rw [zbc_r (by omega), zbc_r (by omega), show c + 3 + 4 * 0 = c + 3 by omega, show d + 3 + 4 * 0 = d + 3 by omega, zbc_n]
  · rw [zbc_r (by omega), show c + 3 + 4 * 1 = c + 7 by omega, show d + 3 + 4 * 1 = d + 7 by omega, zbc_n]
  · rw [show c + 3 + 4 * 2 = c + 11 by omega, show d + 3 + 4 * 2 = d + 11 by omega, zbc_n]
theorem zkc_v {M : zM} {c d a i : Int} (hcd : c + 14 < d ∨ d + 14 < c) (ha : 0 ≤ a ∧ a ≤ 2) (hi : 0 ≤ i ∧ i < M (d + 3 + 4 * a) 0) : zkc M c d (c + 4 + 4 * a) i = M (d + 4 + 4 * a) i ∧ zkc M c d (c + 5 + 4 * a) i = M (d + 5 + 4 * a) i ∧ zkc M c d (c + 6 + 4 * a) i = M (d + 6 + 4 * a) i := by
  unfold zkc
  rcases (by omega : a = 0 ∨ a = 1 ∨ a = 2) with rfl | rfl | rfl
  · rw [show d + 3 + 4 * 0 = d + 3 by omega] at hi
    refine ⟨?_, ?_, ?_⟩
    · rw [zun (by omega), zun (by omega), zcpy_r (by omega), zbc_r (by omega), zbc_r (by omega), zbc_1 (by omega) hi, show d + 4 + 4 * 0 = d + 3 + 1 by omega]
    · rw [zun (by omega), zun (by omega), zcpy_r (by omega), zbc_r (by omega), zbc_r (by omega), zbc_2 (by omega) hi, show d + 5 + 4 * 0 = d + 3 + 2 by omega]
    · rw [zun (by omega), zun (by omega), zcpy_r (by omega), zbc_r (by omega), zbc_r (by omega), zbc_3 (by omega) hi, show d + 6 + 4 * 0 = d + 3 + 3 by omega]
  · rw [show d + 3 + 4 * 1 = d + 7 by omega] at hi
    refine ⟨?_, ?_, ?_⟩
    · rw [zun (by omega), zun (by omega), zcpy_r (by omega), zbc_r (by omega), zbc_1 (by omega) hi, zbc_r (by omega), show d + 4 + 4 * 1 = d + 7 + 1 by omega]
    · rw [zun (by omega), zun (by omega), zcpy_r (by omega), zbc_r (by omega), zbc_2 (by omega) hi, zbc_r (by omega), show d + 5 + 4 * 1 = d + 7 + 2 by omega]
    · rw [zun (by omega), zun (by omega), zcpy_r (by omega), zbc_r (by omega), zbc_3 (by omega) hi, zbc_r (by omega), show d + 6 + 4 * 1 = d + 7 + 3 by omega]
  · rw [show d + 3 + 4 * 2 = d + 11 by omega] at hi
    refine ⟨?_, ?_, ?_⟩
    · rw [zun (by omega), zun (by omega), zcpy_r (by omega), zbc_1 (by omega) hi, zbc_r (by omega), zbc_r (by omega), show d + 4 + 4 * 2 = d + 11 + 1 by omega]
    · rw [zun (by omega), zun (by omega), zcpy_r (by omega), zbc_2 (by omega) hi, zbc_r (by omega), zbc_r (by omega), show d + 5 + 4 * 2 = d + 11 + 2 by omega]
    · rw [zun (by omega), zun (by omega), zcpy_r (by omega), zbc_3 (by omega) hi, zbc_r (by omega), zbc_r (by omega), show d + 6 + 4 * 2 = d + 11 + 3 by omega]
theorem zRc.cp {M M' : zM} {c c' : Int} {m k l w m' k' l' w' : Int → Int} (h : zRc M c m k l w) (hM : ∀ a, 0 ≤ a → a ≤ 2 → M' (c' + 3 + 4 * a) 0 = M (c + 3 + 4 * a) 0 ∧ ∀ i, 0 ≤ i → i < M (c + 3 + 4 * a) 0 → M' (c' + 4 + 4 * a) i = M (c + 4 + 4 * a) i ∧ M' (c' + 5 + 4 * a) i = M (c + 5 + 4 * a) i ∧ M' (c' + 6 + 4 * a) i = M (c + 6 + 4 * a) i) (hm : ∀ a, 0 ≤ a → a ≤ 2 → m' a = m a) (hk : ∀ i, 0 ≤ i → i < 120 → k' i = k i ∧ l' i = l i ∧ w' i = w i) : zRc M' c' m' k' l' w' := by
  intro a h0 h2
  obtain ⟨g1, g2, g3, g4⟩ := h a h0 h2
  obtain ⟨e1, e2⟩ := hM a h0 h2
  rw [e1, hm a h0 h2]
  refine ⟨g1, g2, g3, fun i hi hn => ?_⟩
  obtain ⟨f1, f2, f3⟩ := hk (40 * a + i) (by omega) (by omega)
  obtain ⟨e3, e4, e5⟩ := e2 i hi (by rw [g1]; exact hn)
  rw [e3, e4, e5, f1, f2, f3]
  exact g4 i hi hn
theorem zRp.cp {M M' : zM} {c c' n n' : Int} {s t s' t' : Int → Int} (h : zRp M c n s t) (h2 : M' c' 2 = M c 2) (hM : ∀ y, 0 ≤ y → y ≤ 800 → M' (c' + 2) y = M (c + 2) y) (hn : n' = n) (hs : ∀ j, 0 ≤ j → j < n → s' j = s j ∧ t' j = t j) : zRp M' c' n' s' t' := by
  subst hn
  obtain ⟨g1, g2, g3, g4, g5, g6⟩ := h
  refine ⟨h2.trans g1, g2, g3, fun j h0 hj => ?_, fun i j h0 hij hj => ?_, fun y h0 hy hx => ?_⟩
  · obtain ⟨f1, f2⟩ := hs j h0 (by omega)
    obtain ⟨f3, f4, f5, f6, f7⟩ := g4 j h0 hj
    rw [f1, f2, hM _ (by omega) (by omega)]
    exact ⟨f3, f4, f5, f6, f7⟩
  · rw [(hs i h0 (by omega)).1, (hs j (by omega) (by omega)).1]
    exact g5 i j h0 hij hj
  · rw [hM _ h0 hy] at hx
    obtain ⟨j, f1, f2, f3⟩ := g6 y h0 hy hx
    exact ⟨j, f1, f2, by rw [(hs j f1 (by omega)).1]; exact f3⟩
theorem zCaT {M : zM} (h : zPC M) (n m : Nat) {d : Int} (hd : 0 ≤ d ∧ d ≤ 5) : zCa M (zKs, n, m) (78 + 17 * d) := by
  rcases (by omega : d = 0 ∨ d = 1 ∨ d = 2 ∨ d = 3 ∨ d = 4 ∨ d = 5) with rfl | rfl | rfl | rfl | rfl | rfl
  · exact ⟨by omega, zk_78 n m, zk_79 n m, zk_80 n m, zp_78_0 h, zp_78_1 h, zp_79_0 h, zp_79_1 h, zp_79_2 h, ⟨by omega, zk_81 n m, zk_82 n m, zk_83 n m, zk_84 n m, zp_81_1 h, zp_81_2 h, zp_81_3 h⟩, ⟨by omega, zk_85 n m, zk_86 n m, zk_87 n m, zk_88 n m, zp_85_1 h, zp_85_2 h, zp_85_3 h⟩, ⟨by omega, zk_89 n m, zk_90 n m, zk_91 n m, zk_92 n m, zp_89_1 h, zp_89_2 h, zp_89_3 h⟩⟩
  · exact ⟨by omega, zk_95 n m, zk_96 n m, zk_97 n m, zp_95_0 h, zp_95_1 h, zp_96_0 h, zp_96_1 h, zp_96_2 h, ⟨by omega, zk_98 n m, zk_99 n m, zk_100 n m, zk_101 n m, zp_98_1 h, zp_98_2 h, zp_98_3 h⟩, ⟨by omega, zk_102 n m, zk_103 n m, zk_104 n m, zk_105 n m, zp_102_1 h, zp_102_2 h, zp_102_3 h⟩, ⟨by omega, zk_106 n m, zk_107 n m, zk_108 n m, zk_109 n m, zp_106_1 h, zp_106_2 h, zp_106_3 h⟩⟩
  · exact ⟨by omega, zk_112 n m, zk_113 n m, zk_114 n m, zp_112_0 h, zp_112_1 h, zp_113_0 h, zp_113_1 h, zp_113_2 h, ⟨by omega, zk_115 n m, zk_116 n m, zk_117 n m, zk_118 n m, zp_115_1 h, zp_115_2 h, zp_115_3 h⟩, ⟨by omega, zk_119 n m, zk_120 n m, zk_121 n m, zk_122 n m, zp_119_1 h, zp_119_2 h, zp_119_3 h⟩, ⟨by omega, zk_123 n m, zk_124 n m, zk_125 n m, zk_126 n m, zp_123_1 h, zp_123_2 h, zp_123_3 h⟩⟩
  · exact ⟨by omega, zk_129 n m, zk_130 n m, zk_131 n m, zp_129_0 h, zp_129_1 h, zp_130_0 h, zp_130_1 h, zp_130_2 h, ⟨by omega, zk_132 n m, zk_133 n m, zk_134 n m, zk_135 n m, zp_132_1 h, zp_132_2 h, zp_132_3 h⟩, ⟨by omega, zk_136 n m, zk_137 n m, zk_138 n m, zk_139 n m, zp_136_1 h, zp_136_2 h, zp_136_3 h⟩, ⟨by omega, zk_140 n m, zk_141 n m, zk_142 n m, zk_143 n m, zp_140_1 h, zp_140_2 h, zp_140_3 h⟩⟩
  · exact ⟨by omega, zk_146 n m, zk_147 n m, zk_148 n m, zp_146_0 h, zp_146_1 h, zp_147_0 h, zp_147_1 h, zp_147_2 h, ⟨by omega, zk_149 n m, zk_150 n m, zk_151 n m, zk_152 n m, zp_149_1 h, zp_149_2 h, zp_149_3 h⟩, ⟨by omega, zk_153 n m, zk_154 n m, zk_155 n m, zk_156 n m, zp_153_1 h, zp_153_2 h, zp_153_3 h⟩, ⟨by omega, zk_157 n m, zk_158 n m, zk_159 n m, zk_160 n m, zp_157_1 h, zp_157_2 h, zp_157_3 h⟩⟩
  · exact ⟨by omega, zk_163 n m, zk_164 n m, zk_165 n m, zp_163_0 h, zp_163_1 h, zp_164_0 h, zp_164_1 h, zp_164_2 h, ⟨by omega, zk_166 n m, zk_167 n m, zk_168 n m, zk_169 n m, zp_166_1 h, zp_166_2 h, zp_166_3 h⟩, ⟨by omega, zk_170 n m, zk_171 n m, zk_172 n m, zk_173 n m, zp_170_1 h, zp_170_2 h, zp_170_3 h⟩, ⟨by omega, zk_174 n m, zk_175 n m, zk_176 n m, zk_177 n m, zp_174_1 h, zp_174_2 h, zp_174_3 h⟩⟩
