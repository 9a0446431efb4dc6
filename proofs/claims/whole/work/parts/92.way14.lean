/-! WAYS: the class's reach and spread -/
def zJM (M : zM) (b : Int → Int) (h : Int) (D : Int → Int) (w L : Int) (K : Int → Int) (x : Int) : Prop := zJ b h D w (M 20) L K (M 21 1) (M 21 2) (M 22) (M 23 1) (M 23 2) (M 24) x
/-- what a reach does while x is spread -/
def zSp (M M' : zM) (b : Int → Int) (h : Int) (D : Int → Int) (w L x : Int) : Prop := (∀ r y, (r < 20 ∨ 24 < r ∨ ((r = 21 ∨ r = 23) ∧ y ≠ 2)) → M' r y = M r y) ∧ (∃ K, zJM M' b h D w L K x) ∧ (∀ y, M' 20 y ≤ M 20 y) ∧ M' 20 x = L
theorem zSp.trans {M M' M'' : zM} {b : Int → Int} {h : Int} {D : Int → Int} {w L x : Int} (h1 : zSp M M' b h D w L x) (h2 : zSp M' M'' b h D w L x) : zSp M M'' b h D w L x := by
  obtain ⟨a1, a2, a3, a4⟩ := h1
  obtain ⟨b1, b2, b3, b4⟩ := h2
  exact ⟨fun r y hr => by rw [b1 r y hr, a1 r y hr], b2, fun y => Int.le_trans (b3 y) (a3 y), b4⟩
theorem zSp.pc {M M' : zM} {b : Int → Int} {h : Int} {D : Int → Int} {w L x : Int} (H : zSp M M' b h D w L x) (r0 : zPC M) : zPC M' := zPC_t (fun r y => decide (r = 20 ∨ r = 22 ∨ r = 24 ∨ y = 2 ∧ (r = 21 ∨ r = 23))) (by decide +kernel) r0 (fun r y hr => H.1 r y (by simp at hr; omega))
theorem zu_row {M : zM} {a b v y : Int} : zu M a b v a y = if y = b then v else M a y := by
  by_cases e : y = b
  · rw [if_pos e, e, zus]
  · rw [if_neg e, zun2 e]
theorem e43S {M : zM} {n m : Nat} {b : Int → Int} {h gx gy : Int} {D : Int → Int} {w L : Int} {K : Int → Int} {x c' : Int} (r0 : zPC M) (J : zJM M b h D w L K x) (hD : zDF b h gx gy D) (hh : 1 ≤ h ∧ h ≤ 8) (hc : zad b h c' x 1) (hx : M 20 x = L ∧ L < 1073741824) : ∃ M', zex 43 0 [] [(2, 18), (0, c'), (0, L + 1), (2, 21)] M (zKs, n, m) = some ((9, 0), M', (zKs, n, m)) ∧ zSp M M' b h D w L x ∧ M' 20 c' ≤ L + 1 := by
  have rc := hc.1.1
  have t0 := J.1.1
  have go : ¬ M 20 c' ≤ L + 1 → _ := fun e => zJ.rS (U' := fun y => if y = c' then L + 1 else M 20 y) (s' := fun i => if i = M 21 2 then c' else M 22 i) J hD hh hc hx e (fun _ => rfl) (fun _ => rfl)
  have c := e43 (n := n) (m := m) (a := 21) (x := c') (v := L + 1) r0 (.inl rfl) rc ⟨by omega, fun e => by have := (go (by omega)).tl; omega⟩
  have nx := (zad_w hh hc).2
  by_cases e : M 20 c' ≤ L + 1
  · rw [if_pos e] at c
    exact ⟨M, c, ⟨fun _ _ _ => rfl, ⟨K, J⟩, fun _ => Int.le_refl _, hx.1⟩, e⟩
  · rw [if_neg e] at c
    have J' := go e
    refine ⟨_, c, ⟨fun r y hr => ?_, ⟨K, ?_⟩, fun y => ?_, ?_⟩, ?_⟩
    · by_cases k : r = 21
      · rw [zun2 (by omega), zun (by omega), zun (by omega)]
      · rw [zun k, zun (by omega), zun (by omega)]
    · unfold zJM
      have q1 : ∀ y, y ≠ 2 → zu (zu (zu M 20 c' (L + 1)) (21 + 1) (M 21 2) c') 21 2 (M 21 2 + 1) 21 y = M 21 y := fun y hy => by rw [zun2 hy, zun (by omega), zun (by omega)]
      have q2 : ∀ y, zu (zu (zu M 20 c' (L + 1)) (21 + 1) (M 21 2) c') 21 2 (M 21 2 + 1) 23 y = M 23 y := fun y => by rw [zun (by omega), zun (by omega), zun (by omega)]
      have q3 : zu (zu (zu M 20 c' (L + 1)) (21 + 1) (M 21 2) c') 21 2 (M 21 2 + 1) 24 = M 24 := funext fun y => by rw [zun (by omega), zun (by omega), zun (by omega)]
      have q4 : zu (zu (zu M 20 c' (L + 1)) (21 + 1) (M 21 2) c') 21 2 (M 21 2 + 1) 20 = fun y => if y = c' then L + 1 else M 20 y := funext fun y => by rw [zun (by omega), zun (by omega), zu_row]
      have q5 : zu (zu (zu M 20 c' (L + 1)) (21 + 1) (M 21 2) c') 21 2 (M 21 2 + 1) 22 = fun i => if i = M 21 2 then c' else M 22 i := funext fun y => by
        rw [zun (by omega), show (21 : Int) + 1 = 22 by omega, zu_row, zun (by omega)]
      rw [q1 1 (by omega), q2, q2, q3, q4, q5, zus]
      exact J'
    · rw [zun (by omega), zun (by omega), zu_row]
      by_cases k : y = c'
      · rw [if_pos k, k]; omega
      · rw [if_neg k]; exact Int.le_refl _
    · rw [zun (by omega), zun (by omega), zu_row, if_neg (fun k => nx k)]
      exact hx.1
    · rw [zun (by omega), zun (by omega), zus]
      exact Int.le_refl _
theorem e43T {M : zM} {n m : Nat} {b : Int → Int} {h gx gy : Int} {D : Int → Int} {w L : Int} {K : Int → Int} {x c' : Int} (r0 : zPC M) (J : zJM M b h D w L K x) (hD : zDF b h gx gy D) (hh : 1 ≤ h ∧ h ≤ 8) (hc : zad b h c' x (4 * h)) (hx : M 20 x = L ∧ L < 1073741824) : ∃ M', zex 43 0 [] [(2, 18), (0, c'), (0, L + 4 * h), (2, 23)] M (zKs, n, m) = some ((9, 0), M', (zKs, n, m)) ∧ zSp M M' b h D w L x ∧ M' 20 c' ≤ L + 4 * h := by
  have rc := hc.1.1
  have t0 := J.2.1.1
  have go : ¬ M 20 c' ≤ L + 4 * h → _ := fun e => zJ.rT (U' := fun y => if y = c' then L + 4 * h else M 20 y) (t' := fun i => if i = M 23 2 then c' else M 24 i) J hD hh hc hx e (fun _ => rfl) (fun _ => rfl)
  have c := e43 (n := n) (m := m) (a := 23) (x := c') (v := L + 4 * h) r0 (.inr rfl) rc ⟨by omega, fun e => by have := (go (by omega)).tl; omega⟩
  have nx := (zad_w hh hc).2
  by_cases e : M 20 c' ≤ L + 4 * h
  · rw [if_pos e] at c
    exact ⟨M, c, ⟨fun _ _ _ => rfl, ⟨K, J⟩, fun _ => Int.le_refl _, hx.1⟩, e⟩
  · rw [if_neg e] at c
    have J' := go e
    refine ⟨_, c, ⟨fun r y hr => ?_, ⟨fun i => if i = M 23 2 then L + 4 * h else K i, ?_⟩, fun y => ?_, ?_⟩, ?_⟩
    · by_cases k : r = 23
      · rw [zun2 (by omega), zun (by omega), zun (by omega)]
      · rw [zun k, zun (by omega), zun (by omega)]
    · unfold zJM
      have q1 : ∀ y, y ≠ 2 → zu (zu (zu M 20 c' (L + 4 * h)) (23 + 1) (M 23 2) c') 23 2 (M 23 2 + 1) 23 y = M 23 y := fun y hy => by rw [zun2 hy, zun (by omega), zun (by omega)]
      have q2 : ∀ y, zu (zu (zu M 20 c' (L + 4 * h)) (23 + 1) (M 23 2) c') 23 2 (M 23 2 + 1) 21 y = M 21 y := fun y => by rw [zun (by omega), zun (by omega), zun (by omega)]
      have q3 : zu (zu (zu M 20 c' (L + 4 * h)) (23 + 1) (M 23 2) c') 23 2 (M 23 2 + 1) 22 = M 22 := funext fun y => by rw [zun (by omega), zun (by omega), zun (by omega)]
      have q4 : zu (zu (zu M 20 c' (L + 4 * h)) (23 + 1) (M 23 2) c') 23 2 (M 23 2 + 1) 20 = fun y => if y = c' then L + 4 * h else M 20 y := funext fun y => by rw [zun (by omega), zun (by omega), zu_row]
      have q5 : zu (zu (zu M 20 c' (L + 4 * h)) (23 + 1) (M 23 2) c') 23 2 (M 23 2 + 1) 24 = fun i => if i = M 23 2 then c' else M 24 i := funext fun y => by
        rw [zun (by omega), show (23 : Int) + 1 = 24 by omega, zu_row, zun (by omega)]
      rw [q1 1 (by omega), q2, q2, q3, q4, q5, zus]
      exact J'
    · rw [zun (by omega), zun (by omega), zu_row]
      by_cases k : y = c'
      · rw [if_pos k, k]; omega
      · rw [if_neg k]; exact Int.le_refl _
    · rw [zun (by omega), zun (by omega), zu_row, if_neg (fun k => nx k)]
      exact hx.1
    · rw [zun (by omega), zun (by omega), zus]
      exact Int.le_refl _
theorem zsv2 {M : zM} {q : Int} (hq : 0 ≤ q ∧ q ≤ 3) : zsv M 2 q = zax q ∧ zsv M 3 q = zay q := by
  have : q = 0 ∨ q = 1 ∨ q = 2 ∨ q = 3 := by omega
  rcases this with rfl | rfl | rfl | rfl <;> exact ⟨rfl, rfl⟩
theorem zsl2 {M : zM} : zsl M 2 = 4 ∧ zsl M 3 = 4 := ⟨rfl, rfl⟩
/-- a step to a neighbour cell: what both looks of spread do -/
theorem e42_k {M : zM} {n m : Nat} {b : Int → Int} {h gx gy : Int} {D : Int → Int} {w L : Int} {K : Int → Int} {c X Y : Int} (r0 : zPC M) (hb : ∀ y, 0 ≤ y → y < 1024 → M 19 y = b y) (J : zJM M b h D w L K c) (hD : zDF b h gx gy D) (hh : 1 ≤ h ∧ h ≤ 8) (hx : M 20 c = L ∧ L < 1073741824) (hc : (0 ≤ c ∧ c < 2048) ∧ b (c / 2) = 0) (hX : (c % 2 = 0 ∧ Y = c / 2 / 32 ∧ (X = c / 2 % 32 + 1 ∨ X = c / 2 % 32 - 1)) ∨ (c % 2 = 1 ∧ X = c / 2 % 32 ∧ (Y = c / 2 / 32 + 1 ∨ Y = c / 2 / 32 - 1))) : (((0 ≤ X ∧ X ≤ 31) ∧ (0 ≤ Y ∧ Y ≤ 31) ∧ M 19 (Y * 32 + X) = 0) ∧ zad b h ((Y * 32 + X) * 2 + c % 2 % 2) c 1 ∧ ∃ M', zex 43 0 [] [(2, 18), (0, (Y * 32 + X) * 2 + c % 2 % 2), (0, L + 1), (2, 21)] M (zKs, n, m) = some ((9, 0), M', (zKs, n, m)) ∧ zSp M M' b h D w L c ∧ M' 20 ((Y * 32 + X) * 2 + c % 2 % 2) ≤ L + 1) ∨ (¬ ((0 ≤ X ∧ X ≤ 31) ∧ (0 ≤ Y ∧ Y ≤ 31) ∧ M 19 (Y * 32 + X) = 0) ∧ ¬ zad b h ((Y * 32 + X) * 2 + c % 2 % 2) c 1) := by
  have t : ((Y * 32 + X) * 2 + c % 2 % 2) / 2 = Y * 32 + X := by omega
  by_cases f : (0 ≤ X ∧ X ≤ 31) ∧ (0 ≤ Y ∧ Y ≤ 31) ∧ M 19 (Y * 32 + X) = 0
  · obtain ⟨f1, f2, f3⟩ := id f
    have z : zad b h ((Y * 32 + X) * 2 + c % 2 % 2) c 1 := by
      refine ⟨⟨by omega, by rw [t, ← hb _ (by omega) (by omega)]; exact f3⟩, hc, .inl ⟨rfl, ?_⟩⟩
      rcases hX with ⟨a1, a2, a3⟩ | ⟨a1, a2, a3⟩
      · exact .inl ⟨by omega, by omega, by omega⟩
      · exact .inr ⟨by omega, by omega⟩
    exact .inl ⟨f, z, e43S r0 J hD hh z hx⟩
  · refine .inr ⟨f, fun z => f ?_⟩
    obtain ⟨⟨z1, z2⟩, z3, z4⟩ := z
    rw [t] at z2
    have k : (0 ≤ X ∧ X ≤ 31) ∧ 0 ≤ Y ∧ Y ≤ 31 := by
      rcases hX with ⟨a1, a2, a3⟩ | ⟨a1, a2, a3⟩
      · rcases z4 with ⟨-, ⟨z5, z6, z7⟩ | ⟨z5, z6⟩⟩ | ⟨z5, z6, z7⟩
        · omega
        · omega
        · rw [t] at z6; omega
      · omega
    exact ⟨k.1, k.2, by rw [hb _ (by omega) (by omega)]; exact z2⟩
