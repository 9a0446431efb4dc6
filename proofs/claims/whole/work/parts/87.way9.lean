/-! WAYS: reckons comes to an end -/
theorem zme_ge {P : zM} {G : Int → Prop} (H : zRI P G) : 0 ≤ zsm (zme (zfF P)) 0 4096 := by
  have := zsm_le (f := zme (zfF P)) (a := 0) (b := 1000000) 4096 0 (fun k _ _ => by
    have b1 := H.1.1 k
    have b2 := H.2 k
    have l := zrn0_le (f := zfF P)
    unfold zme
    split <;> omega)
  omega
theorem e182_lp {n m : Nat} {G : Int → Prop} {x y : Int} : ∀ (N : Nat) (P : zM) (d4 d5 d6 : zV), zsm (zme (zfF P)) 0 4096 < N → zPR P → (1 ≤ P 178 5 ∧ P 178 5 ≤ 8) → zRI P G → ∃ P', zex 182 30 [] [(2, 178), (0, x), (0, y), (0, 1), d4, d5, d6] P (zKs, n, m) = some ((9, 0), P', (zKs, n, m)) ∧ zRI P' G ∧ (∀ r t, (r ≠ 216 ∨ t < 0 ∨ 4096 ≤ t ∨ P 185 (t / 4) ≠ 0) → P' r t = P r t) ∧ ∀ t, 0 ≤ t → t < 4096 → P' 185 (t / 4) = 0 → ∀ j, 0 ≤ j → j ≤ 3 → ¬ zrx (P' 185) (P' 178 5) (P' 216) t j
  | 0, P, d4, d5, d6, hN, r1, hh, H => by
    have := zme_ge H
    omega
  | N + 1, P, d4, d5, d6, hN, r1, hh, H => by
    obtain ⟨Q, g1, c5, c6, a1, a2, a3, a4⟩ := e182_sw (n := n) (m := m) (G := G) (x := x) (y := y) 4096 0 0 P d5 d6 (by omega) (by omega) r1 hh H
    have s1 : zex 182 30 [] [(2, 178), (0, x), (0, y), (0, 1), d4, d5, d6] P (zKs, n, m) = zex 182 36 [] [(2, 178), (0, x), (0, y), (0, 0), (0, 0), d5, d6] P (zKs, n, m) := by
      rw [q182_30, if_neg (by omega)]
    rcases a4 with ⟨rfl, rfl, a5⟩ | ⟨rfl, a5⟩
    · exact ⟨Q, by rw [s1, a1, q182_30, if_pos rfl], a2, a3, fun t t0 t1 tb j j0 j1 => a5 t t0 t1 tb j j0 j1⟩
    · have rQ : zPR Q := zPR_t (fun r y => decide (r = 216)) (by decide +kernel) r1 (fun r y hr => a3 r y (by simp at hr; omega))
      have u2 : Q 178 5 = P 178 5 := a3 _ _ (by omega)
      have u1 : ∀ z, Q 185 z = P 185 z := fun z => a3 _ _ (by omega)
      obtain ⟨P', b1, b2, b3, b4⟩ := e182_lp (n := n) (m := m) (G := G) (x := x) (y := y) N Q (0, 4096) c5 c6 (by omega) rQ (by rw [u2]; exact hh) a2
      exact ⟨P', by rw [s1, a1, b1], b2, fun r t hr => by rw [b3 r t (by rw [u1]; exact hr), a3 r t hr], b4⟩
