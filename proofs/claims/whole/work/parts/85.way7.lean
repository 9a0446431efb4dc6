/-! WAYS: the reference's four looks -/
/-- far within its row -/
def zfF (P : zM) : Int → Int := fun t => if 0 ≤ t ∧ t < 4096 then P 216 t else -1
/-- the invariant of reckons; G: the goals -/
def zRI (P : zM) (G : Int → Prop) : Prop := zfi (P 185) (P 178 5) G (zfF P) ∧ ∀ t, zfF P t ≤ 32 * zsm (zrn0 (zfF P)) 0 4096
theorem zfF_in {P : zM} {t : Int} (h : 0 ≤ t ∧ t < 4096) : zfF P t = P 216 t := if_pos h
theorem zrx_F {P : zM} {b : Int → Int} {h s m : Int} (hs : 0 ≤ s ∧ s < 4096) (hm : 0 ≤ m ∧ m ≤ 3) : zrx b h (P 216) s m ↔ zrx b h (zfF P) s m := by
  have := zmv_le (b := b) hs hm
  unfold zrx
  constructor
  · rintro ⟨a, b', c⟩
    rw [zfF_in (t := zmv b s m) (by omega), zfF_in hs]
    exact ⟨a, b', c⟩
  · rintro ⟨a, b', c⟩
    rw [zfF_in (t := zmv b s m) (by omega)] at b' c
    rw [zfF_in hs] at c
    exact ⟨a, b', c⟩
theorem zfF_go {P : zM} {b : Int → Int} {h s m : Int} (hs : 0 ≤ s ∧ s < 4096) (hm : 0 ≤ m ∧ m ≤ 3) : zfF (if zrx b h (P 216) s m then zu P 216 s (P 216 (zmv b s m) + zpm h m) else P) = zfx b h (zfF P) s m := by
  have hv := zmv_le (b := b) hs hm
  by_cases e : zrx b h (P 216) s m
  · have e2 := (zrx_F hs hm).mp e
    unfold zfx
    rw [if_pos e, if_pos e2]
    obtain ⟨e3, -⟩ := e
    funext t
    rw [zfF_in (t := zmv b s m) (by omega)]
    by_cases et : t = s
    · rw [if_pos et, et, zfF_in hs, zus]
    · rw [if_neg et]
      unfold zfF
      rw [zun2 et]
  · unfold zfx
    rw [if_neg e, if_neg (fun c => e ((zrx_F hs hm).mpr c))]
/-- looks at the moves k .. 3 of s -/
theorem e182_in {n m : Nat} {G : Int → Prop} {x y s : Int} (hs : 0 ≤ s ∧ s < 4096) : ∀ (q : Nat) (k g : Int) (P : zM) (d6 : zV), 0 ≤ k → k + q = 4 → zPR P → (1 ≤ P 178 5 ∧ P 178 5 ≤ 8) → zRI P G → ∃ P' g' d, zex 182 49 [] [(2, 178), (0, x), (0, y), (0, g), (0, s), (0, k), d6] P (zKs, n, m) = zex 182 101 [] [(2, 178), (0, x), (0, y), (0, g'), (0, s), (0, 4), d] P' (zKs, n, m) ∧ zRI P' G ∧ (∀ r t, (r ≠ 216 ∨ t ≠ s) → P' r t = P r t) ∧ ((g' = g ∧ P' = P ∧ ∀ j, k ≤ j → j ≤ 3 → ¬ zrx (P 185) (P 178 5) (P 216) s j) ∨ (g' = 1 ∧ zsm (zme (zfF P')) 0 4096 < zsm (zme (zfF P)) 0 4096))
  | 0, k, g, P, d6, h0, h1, r1, hh, H => by
    have e : k = 4 := by omega
    subst e
    exact ⟨P, g, d6, by rw [q182_49, if_pos (by omega)], H, fun _ _ _ => rfl, .inl ⟨rfl, rfl, fun j j0 j1 => by omega⟩⟩
  | q + 1, k, g, P, d6, h0, h1, r1, hh, H => by
    have hk : 0 ≤ k ∧ k ≤ 3 := ⟨h0, by omega⟩
    obtain ⟨H1, H2⟩ := id H
    have l := zrn0_le (f := zfF P)
    obtain ⟨d, a1⟩ := e182_m (n := n) (m := m) (x := x) (y := y) (g := g) (s := s) (k := k) (d6 := d6) r1 hs (by omega) hh (fun t t0 t1 => by
      have b1 := H1.1 t
      have b2 := H2 t
      rw [zfF_in ⟨t0, t1⟩] at b1 b2
      omega)
    have eF := zfF_go (P := P) (b := P 185) (h := P 178 5) hs hk
    by_cases e : zrx (P 185) (P 178 5) (P 216) s k
    · simp only [if_pos e] at a1 eF
      have e2 := (zrx_F hs hk).mp e
      obtain ⟨c1, c2⟩ := zfx_b hh H1 hs H2 e2
      have c3 := (H1.go (s := s) hh hk).1
      have f0 : ∀ r t, (r ≠ 216 ∨ t ≠ s) → zu P 216 s (P 216 (zmv (P 185) s k) + zpm (P 178 5) k) r t = P r t := fun r t hr => by
        by_cases er : r = 216
        · rw [er, zun2 (by omega)]
        · rw [zun er]
      have rP : zPR (zu P 216 s (P 216 (zmv (P 185) s k) + zpm (P 178 5) k)) := zPR_zu r1 (zPR_row (by decide +kernel))
      rw [← eF] at c1 c2 c3
      generalize zu P 216 s (P 216 (zmv (P 185) s k) + zpm (P 178 5) k) = Q at a1 c1 c2 c3 f0 rP
      have u1 : Q 185 = P 185 := funext fun t => f0 _ _ (by omega)
      have u2 : Q 178 5 = P 178 5 := f0 _ _ (by omega)
      obtain ⟨P', g', d', b1, b2, b3, b4⟩ := e182_in (n := n) (m := m) (G := G) (x := x) (y := y) hs q (k + 1) 1 Q d (by omega) (by omega) rP (by rw [u2]; exact hh) ⟨by rw [u1, u2]; exact c3, c1⟩
      refine ⟨P', g', d', a1.trans b1, b2, fun r t hr => by rw [b3 _ _ hr, f0 _ _ hr], .inr ?_⟩
      rcases b4 with ⟨rfl, rfl, -⟩ | ⟨b4, b5⟩
      · exact ⟨rfl, c2⟩
      · exact ⟨b4, by omega⟩
    · simp only [if_neg e] at a1
      obtain ⟨P', g', d', b1, b2, b3, b4⟩ := e182_in (n := n) (m := m) (G := G) (x := x) (y := y) hs q (k + 1) g P d (by omega) (by omega) r1 hh H
      refine ⟨P', g', d', a1.trans b1, b2, b3, ?_⟩
      rcases b4 with ⟨b4, b5, b6⟩ | b4
      · refine .inl ⟨b4, b5, fun j j0 j1 => ?_⟩
        by_cases ej : j = k
        · rw [ej]; exact e
        · exact b6 j (by omega) j1
      · exact .inr b4
