/-! WAYS: the class's search, its loop -/
/-- what a search changes -/
def zSf (M M' : zM) : Prop := ∀ r y, (r < 20 ∨ 24 < r ∨ ((r = 21 ∨ r = 23) ∧ (y < 1 ∨ 2 < y))) → M' r y = M r y
theorem zSf.pc {M M' : zM} (H : zSf M M') (r0 : zPC M) : zPC M' := zPC_t (fun r y => decide (r = 20 ∨ r = 22 ∨ r = 24 ∨ ((y = 1 ∨ y = 2) ∧ (r = 21 ∨ r = 23)))) (by decide +kernel) r0 (fun r y hr => H r y (by simp at hr; omega))
theorem zSf.trans {M M' M'' : zM} (h1 : zSf M M') (h2 : zSf M' M'') : zSf M M'' := fun r y hr => (h2 r y hr).trans (h1 r y hr)
theorem zSf_h {M : zM} {a v : Int} (ha : a = 21 ∨ a = 23) : zSf M (zu M a 1 v) := fun r y hr => by
  by_cases k : r = a
  · rw [zun2 (by omega)]
  · rw [zun k]
theorem e37_w {M M1 : zM} {n m : Nat} {x1 x2 x3 x4 x5 x6 w x8 c : Int} {d9 : zV} (r1 : zPC M1) (h8 : x8 < 4096) (e : zex 41 0 [] [(2, 18)] M (zKs, n, m) = some ((0, c), M1, (zKs, n, m))) (hc : 0 ≤ c ∧ c < 2048) (hw : c = w) : zex 37 50 [] [(2, 18), (0, x1), (0, x2), (0, x3), (0, x4), (0, x5), (0, x6), (0, w), (0, x8), d9] M (zKs, n, m) = some ((0, M1 20 c), M1, (zKs, n, m)) := by
  have hc1 := hc.1
  rw [q37_50, if_neg (by omega)]
  simp (disch := omega) only [e, hc1, if_pos hw, zk_18, zk_20, zp_18_2 r1, zg_pos, ↓reduceIte, Int.reduceEq, Int.reduceLE, Int.reduceLT, Int.reduceAdd, Int.reduceSub, Int.reduceMul, Int.reduceNeg, zg_T, zbI_ok, zbL_ok, zbN_ok, zite1, zite2, zite3, zem, Int.cast_ofNat_Int, and_self, and_true, true_and, or_true, true_or, or_self, ite_not, if_true, if_false, not_true_eq_false, not_false_eq_true]
theorem e37_s {M M1 M2 : zM} {n m : Nat} {x1 x2 x3 x4 x5 x6 w x8 c : Int} {d9 : zV} (h8 : 0 ≤ x8 ∧ x8 < 4096) (e : zex 41 0 [] [(2, 18)] M (zKs, n, m) = some ((0, c), M1, (zKs, n, m))) (hc : 0 ≤ c) (hw : c ≠ w) (e2 : zex 42 0 [] [(2, 18), (0, c), (9, 0), (9, 0), (9, 0), (9, 0), (9, 0)] M1 (zKs, n, m) = some ((9, 0), M2, (zKs, n, m))) : zex 37 50 [] [(2, 18), (0, x1), (0, x2), (0, x3), (0, x4), (0, x5), (0, x6), (0, w), (0, x8), d9] M (zKs, n, m) = zex 37 50 [] [(2, 18), (0, x1), (0, x2), (0, x3), (0, x4), (0, x5), (0, x6), (0, w), (0, x8 + 1), (0, c)] M2 (zKs, n, m) := by
  rw [q37_50, if_neg (by omega), zg_pos (zk_18 n m), e, zbI_ok, if_pos hc, if_neg hw, zg_pos (zk_18 n m), e2, zbN_ok, zg_pos (by unfold zI; omega)]
/-- what a search answers -/
def zMe (D : Int → Int) (w : Int) (v : Int) (M' : zM) : Prop := (v = -1 ∧ D w = -1) ∨ (0 ≤ v ∧ D w = v ∧ zKn (M' 20) D v)
theorem zMe_of {b : Int → Int} {h gx gy : Int} {D : Int → Int} {w L : Int} {K : Int → Int} {hS tS : Int} {s : Int → Int} {hT tT : Int} {t : Int → Int} {M' : zM} (H : zJ b h D w (M' 20) L K hS tS s hT tT t (-1)) (hD : zDF b h gx gy D) (hh : 1 ≤ h ∧ h ≤ 8) (hw : 0 ≤ w ∧ w < 2048) (hu : M' 20 w < 1073741824) (hS' : ∀ c, zPS hS tS s c → M' 20 w ≤ M' 20 c) (hT' : ∀ c, zPT (M' 20) K hT tT t c → M' 20 w ≤ M' 20 c) : zMe D w (M' 20 w) M' := by
  have mn := H.min hD hh (by omega) hS' hT'
  have d := H.2.2.1
  have k := zKn_of d hu mn
  have u := (d.1 w hw.1 hw.2).2 hu
  exact .inr ⟨by omega, (k w (M' 20 w) hw.1 hw.2 (by omega) (Int.le_refl _)).mp rfl, k⟩
theorem zMe_no {b : Int → Int} {h gx gy : Int} {D : Int → Int} {w L : Int} {K : Int → Int} {hS tS : Int} {s : Int → Int} {hT tT : Int} {t : Int → Int} {M' : zM} (H : zJ b h D w (M' 20) L K hS tS s hT tT t (-1)) (hD : zDF b h gx gy D) (hh : 1 ≤ h ∧ h ≤ 8) (h1 : tS ≤ hS) (h2 : tT ≤ hT) : zMe D w (-1) M' := by
  have mn := H.min hD hh (k := 1073741824) (by omega) (fun c ⟨i, i0, i1, _⟩ => by omega) (fun c ⟨i, i0, i1, _⟩ => by omega)
  refine .inl ⟨rfl, ?_⟩
  have d4 := hD.2.2.2 w
  by_cases k : D w = -1
  · exact k
  · have := mn w (by omega) (by omega)
    rcases H.2.2.2.2.1 (by omega) with ⟨i, i0, i1, _⟩ | ⟨i, i0, i1, _⟩ <;> omega
theorem zJ.li {M : zM} {b : Int → Int} {h : Int} {D : Int → Int} {w L : Int} {K : Int → Int} {x : Int} (J : zJM M b h D w L K x) : zLi M 21 ∧ zLi M 23 := by
  have tl := zJ.tl J
  obtain ⟨⟨a1, a2, a3, a4⟩, ⟨b1, b2, b3, b4⟩, -⟩ := J
  exact ⟨⟨⟨a1.1, a1.2, tl.1⟩, fun i i0 i1 => by rw [show (21 : Int) + 1 = 22 by omega]; exact (a2 i i0 i1).1⟩, ⟨⟨b1.1, b1.2, tl.2⟩, fun i i0 i1 => by rw [show (23 : Int) + 1 = 24 by omega]; exact (b2 i i0 i1).1⟩⟩
theorem zJ.fr {b : Int → Int} {h gx gy : Int} {D : Int → Int} {w : Int} {U : Int → Int} {L : Int} {K : Int → Int} {hS tS : Int} {s : Int → Int} {hT tT : Int} {t : Int → Int} {x c : Int} (H : zJ b h D w U L K hS tS s hT tT t x) (hD : zDF b h gx gy D) (hc : 0 ≤ c ∧ c < 2048) (hu : U c < 1073741824) : b (c / 2) = 0 ∧ 0 ≤ U c := by
  have u := (H.2.2.1.1 c hc.1 hc.2).2 hu
  exact ⟨((hD.2.2.2 c).2.2 (by omega)).2, by omega⟩
theorem e37_lp {n m : Nat} {b : Int → Int} {h gx gy : Int} {D : Int → Int} {w x1 x2 x3 x4 x5 x6 : Int} (hD : zDF b h gx gy D) (hh : 1 ≤ h ∧ h ≤ 8) (hw : 0 ≤ w ∧ w < 2048) : ∀ (q : Nat) (M : zM) (L : Int) (K : Int → Int) (x8 : Int) (d9 : zV), 0 ≤ x8 → x8 + q = 4096 → x8 = M 21 1 + M 23 1 → zPC M → (∀ y, 0 ≤ y → y < 1024 → M 19 y = b y) → M 18 5 = 4 * h → zJM M b h D w L K (-1) → ∃ v M', zex 37 50 [] [(2, 18), (0, x1), (0, x2), (0, x3), (0, x4), (0, x5), (0, x6), (0, w), (0, x8), d9] M (zKs, n, m) = some ((0, v), M', (zKs, n, m)) ∧ zSf M M' ∧ zMe D w v M'
  | 0, M, L, K, x8, d9, h0, h8, hx, r0, hb, hT, J => by
    have tl := zJ.tl J
    have a1 := J.1.1
    have b1 := J.2.1.1
    exact ⟨-1, M, by rw [q37_50, if_pos (by omega)], fun _ _ _ => rfl, zMe_no J hD hh (by omega) (by omega)⟩
  | q + 1, M, L, K, x8, d9, h0, h8, hx, r0, hb, hT, J => by
    obtain ⟨li1, li2⟩ := zJ.li J
    have a1 := J.1.1
    have b1 := J.2.1.1
    by_cases hne : M 21 1 < M 21 2 ∨ M 23 1 < M 23 2
    · have e := e41 (n := n) (m := m) r0 li1 li2 hne
      by_cases k : M 21 1 < M 21 2 ∧ (M 23 1 < M 23 2 → M 20 (M 22 (M 21 1)) ≤ M 20 (M 24 (M 23 1)))
      · have tk : zTk M = 21 := by
          unfold zTk
          by_cases f : M 23 1 < M 23 2
          · rw [if_pos f, if_pos k.1, if_pos (k.2 f)]
          · rw [if_neg f]
        rw [tk, show (21 : Int) + 1 = 22 by omega] at e
        have u : ∀ r, r ≠ 21 → zu M 21 1 (M 21 1 + 1) r = M r := fun r hr => funext fun y => zun hr
        have f1 : zSf M (zu M 21 1 (M 21 1 + 1)) := zSf_h (.inl rfl)
        have r1 := f1.pc r0
        have cc := J.1.2.1 (M 21 1) a1.1 k.1
        have fr := J.fr hD cc.1 cc.2.2
        by_cases hcw : M 22 (M 21 1) = w
        · refine ⟨_, _, e37_w r1 (by omega) e cc.1 hcw, f1, ?_⟩
          have H : zJ b h D w (zu M 21 1 (M 21 1 + 1) 20) L K (M 21 1) (M 21 2) (M 22) (M 23 1) (M 23 2) (M 24) (-1) := by rw [u 20 (by omega)]; exact J
          rw [hcw]
          rw [hcw] at cc
          refine zMe_of H hD hh hw (by rw [u 20 (by omega)]; exact cc.2.2) (fun c ⟨i, i0, i1, i2⟩ => ?_) (fun c ⟨i, i0, i1, i2, i3⟩ => ?_)
          · rw [u 20 (by omega), ← i2]
            by_cases ki : i = M 21 1
            · rw [ki, hcw]; exact Int.le_refl _
            · have := (J.1.2.2.1 (M 21 1) i a1.1 (by omega) i1).2
              rw [hcw] at this; exact this
          · rw [u 20 (by omega)] at i3 ⊢
            rw [i3]
            have g1 := k.2 (by omega)
            have g2 := J.2.1.2.1 (M 23 1) b1.1 (by omega)
            rw [hcw] at g1
            by_cases ki : i = M 23 1
            · rw [ki]; omega
            · have := (J.2.1.2.2.1 (M 23 1) i b1.1 (by omega) i1).2
              omega
        · have J1 := zJ.tS J k.1 k.2 hcw
          have J1' : zJM (zu M 21 1 (M 21 1 + 1)) b h D w (M 20 (M 22 (M 21 1))) K (M 22 (M 21 1)) := by
            unfold zJM
            rw [u 20 (by omega), u 22 (by omega), u 23 (by omega), u 24 (by omega), zus, zun2 (by omega)]
            exact J1
          obtain ⟨M2, g1, g2, K2, J2⟩ := e42 (n := n) (m := m) (d2 := (9, 0)) (d3 := (9, 0)) (d4 := (9, 0)) (d5 := (9, 0)) (d6 := (9, 0)) r1 (fun y y0 y1 => by rw [u 19 (by omega)]; exact hb y y0 y1) J1' hD hh ⟨by rw [u 20 (by omega)], cc.2.2⟩ (by rw [u 18 (by omega)]; exact hT) ⟨cc.1, fr.1⟩
          have f2 : zSf (zu M 21 1 (M 21 1 + 1)) M2 := fun r y hr => g2 r y (by omega)
          obtain ⟨v, M', c1, c2, c3⟩ := e37_lp (n := n) (m := m) (x1 := x1) (x2 := x2) (x3 := x3) (x4 := x4) (x5 := x5) (x6 := x6) hD hh hw q M2 _ K2 (x8 + 1) (0, M 22 (M 21 1)) (by omega) (by omega) (by rw [g2 21 1 (by omega), g2 23 1 (by omega), zus, u 23 (by omega)]; omega) (f2.pc r1) (fun y y0 y1 => by rw [g2 _ _ (by omega), u 19 (by omega)]; exact hb y y0 y1) (by rw [g2 _ _ (by omega), u 18 (by omega)]; exact hT) J2
          exact ⟨v, M', (e37_s ⟨h0, by omega⟩ e cc.1.1 hcw g1).trans c1, f1.trans (f2.trans c2), c3⟩
      · have k3 : M 23 1 < M 23 2 := by
          by_cases f : M 23 1 < M 23 2
          · exact f
          · exact absurd ⟨hne.resolve_right f, fun z => absurd z f⟩ k
        have k4 : M 21 1 < M 21 2 → M 20 (M 24 (M 23 1)) < M 20 (M 22 (M 21 1)) := fun f => by
          by_cases z : M 20 (M 22 (M 21 1)) ≤ M 20 (M 24 (M 23 1))
          · exact absurd ⟨f, fun _ => z⟩ k
          · omega
        have tk : zTk M = 23 := by
          unfold zTk
          rw [if_pos k3]
          by_cases f : M 21 1 < M 21 2
          · rw [if_pos f, if_neg (by have := k4 f; omega)]
          · rw [if_neg f]
        rw [tk, show (23 : Int) + 1 = 24 by omega] at e
        have u : ∀ r, r ≠ 23 → zu M 23 1 (M 23 1 + 1) r = M r := fun r hr => funext fun y => zun hr
        have f1 : zSf M (zu M 23 1 (M 23 1 + 1)) := zSf_h (.inr rfl)
        have r1 := f1.pc r0
        have cc := J.2.1.2.1 (M 23 1) b1.1 k3
        have fr := J.fr hD cc.1 cc.2.2.2
        by_cases h4 : M 20 (M 24 (M 23 1)) = K (M 23 1)
        · by_cases hcw : M 24 (M 23 1) = w
          · refine ⟨_, _, e37_w r1 (by omega) e cc.1 hcw, f1, ?_⟩
            have H : zJ b h D w (zu M 23 1 (M 23 1 + 1) 20) L K (M 21 1) (M 21 2) (M 22) (M 23 1) (M 23 2) (M 24) (-1) := by rw [u 20 (by omega)]; exact J
            rw [hcw]
            rw [hcw] at cc h4 k4
            refine zMe_of H hD hh hw (by rw [u 20 (by omega)]; exact cc.2.2.2) (fun c ⟨i, i0, i1, i2⟩ => ?_) (fun c ⟨i, i0, i1, i2, i3⟩ => ?_)
            · rw [u 20 (by omega), ← i2]
              have g1 := k4 (by omega)
              by_cases ki : i = M 21 1
              · rw [ki]; omega
              · have := (J.1.2.2.1 (M 21 1) i a1.1 (by omega) i1).2
                omega
            · rw [u 20 (by omega)] at i3 ⊢
              rw [i3, h4]
              by_cases ki : i = M 23 1
              · rw [ki]; exact Int.le_refl _
              · exact (J.2.1.2.2.1 (M 23 1) i b1.1 (by omega) i1).2
          · have J1 := zJ.tT J k3 k4 hcw h4
            have J1' : zJM (zu M 23 1 (M 23 1 + 1)) b h D w (M 20 (M 24 (M 23 1))) K (M 24 (M 23 1)) := by
              unfold zJM
              rw [u 20 (by omega), u 22 (by omega), u 21 (by omega), u 24 (by omega), zus, zun2 (by omega)]
              exact J1
            obtain ⟨M2, g1, g2, K2, J2⟩ := e42 (n := n) (m := m) (d2 := (9, 0)) (d3 := (9, 0)) (d4 := (9, 0)) (d5 := (9, 0)) (d6 := (9, 0)) r1 (fun y y0 y1 => by rw [u 19 (by omega)]; exact hb y y0 y1) J1' hD hh ⟨by rw [u 20 (by omega)], cc.2.2.2⟩ (by rw [u 18 (by omega)]; exact hT) ⟨cc.1, fr.1⟩
            have f2 : zSf (zu M 23 1 (M 23 1 + 1)) M2 := fun r y hr => g2 r y (by omega)
            obtain ⟨v, M', c1, c2, c3⟩ := e37_lp (n := n) (m := m) (x1 := x1) (x2 := x2) (x3 := x3) (x4 := x4) (x5 := x5) (x6 := x6) hD hh hw q M2 _ K2 (x8 + 1) (0, M 24 (M 23 1)) (by omega) (by omega) (by rw [g2 21 1 (by omega), g2 23 1 (by omega), zus, u 21 (by omega)]; omega) (f2.pc r1) (fun y y0 y1 => by rw [g2 _ _ (by omega), u 19 (by omega)]; exact hb y y0 y1) (by rw [g2 _ _ (by omega), u 18 (by omega)]; exact hT) J2
            exact ⟨v, M', (e37_s ⟨h0, by omega⟩ e cc.1.1 hcw g1).trans c1, f1.trans (f2.trans c2), c3⟩
        · obtain ⟨J1, hcw, cl⟩ := zJ.tX J k3 k4 h4
          have J1' : zJM (zu M 23 1 (M 23 1 + 1)) b h D w L K (-1) := by
            unfold zJM
            rw [u 20 (by omega), u 22 (by omega), u 21 (by omega), u 24 (by omega), zus, zun2 (by omega)]
            exact J1
          have g1 := e42X (n := n) (m := m) (c := M 24 (M 23 1)) (d2 := (9, 0)) (d3 := (9, 0)) (d4 := (9, 0)) (d5 := (9, 0)) (d6 := (9, 0)) r1 (fun y y0 y1 => by rw [u 19 (by omega)]; exact hb y y0 y1) (by rw [u 21 (by omega)]; omega) (by rw [zun2 (by omega)]; omega) (fun c' w' z => by rw [u 20 (by omega)]; exact cl.2 c' w' z) ⟨cc.1, fr.1⟩ hh (by rw [u 18 (by omega)]; exact hT) (by rw [u 20 (by omega)]; omega)
          obtain ⟨v, M', c1, c2, c3⟩ := e37_lp (n := n) (m := m) (x1 := x1) (x2 := x2) (x3 := x3) (x4 := x4) (x5 := x5) (x6 := x6) hD hh hw q _ L K (x8 + 1) (0, M 24 (M 23 1)) (by omega) (by omega) (by rw [zus, u 21 (by omega)]; omega) r1 (fun y y0 y1 => by rw [u 19 (by omega)]; exact hb y y0 y1) (by rw [u 18 (by omega)]; exact hT) J1'
          exact ⟨v, M', (e37_s ⟨h0, by omega⟩ e cc.1.1 hcw g1).trans c1, f1.trans c2, c3⟩
    · have h1 : ¬ M 21 1 < M 21 2 := fun z => hne (.inl z)
      have h2 : ¬ M 23 1 < M 23 2 := fun z => hne (.inr z)
      refine ⟨-1, M, ?_, fun _ _ _ => rfl, zMe_no J hD hh (by omega) (by omega)⟩
      rw [q37_50, if_neg (by omega), zg_pos (zk_18 n m), e41e r0 h1 h2, zbI_ok, if_neg (by omega)]
