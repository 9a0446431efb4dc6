/-! WAYS: the class's search, what is true all the time (pure) -/
/-- pending in the line of steps, in the line of turns; closed -/
def zPS (h0 t0 : Int) (s : Int → Int) (c : Int) : Prop := ∃ i, h0 ≤ i ∧ i < t0 ∧ s i = c
def zPT (U K : Int → Int) (h0 t0 : Int) (s : Int → Int) (c : Int) : Prop := ∃ i, h0 ≤ i ∧ i < t0 ∧ s i = c ∧ U c = K i
def zClo (b : Int → Int) (h : Int) (U : Int → Int) (L c : Int) : Prop := U c ≤ L ∧ ∀ c' w, zad b h c' c w → U c' ≤ U c + w
def zLS (U : Int → Int) (L h0 t0 : Int) (s : Int → Int) : Prop := (0 ≤ h0 ∧ h0 ≤ t0) ∧ (∀ i, 0 ≤ i → i < t0 → (0 ≤ s i ∧ s i < 2048) ∧ U (s i) ≤ L + 1 ∧ U (s i) < 1073741824) ∧ (∀ i j, 0 ≤ i → i < j → j < t0 → s i ≠ s j ∧ U (s i) ≤ U (s j)) ∧ ∀ i, h0 ≤ i → i < t0 → L ≤ U (s i)
def zLT (U K : Int → Int) (L h h0 t0 : Int) (s : Int → Int) : Prop := (0 ≤ h0 ∧ h0 ≤ t0) ∧ (∀ i, 0 ≤ i → i < t0 → (0 ≤ s i ∧ s i < 2048) ∧ U (s i) ≤ K i ∧ K i ≤ L + 4 * h ∧ U (s i) < 1073741824) ∧ (∀ i j, 0 ≤ i → i < j → j < t0 → s i ≠ s j ∧ K i ≤ K j) ∧ ∀ i, h0 ≤ i → i < t0 → L ≤ K i
def zUD (D U : Int → Int) : Prop := (∀ c, 0 ≤ c → c < 2048 → U c ≤ 1073741824 ∧ (U c < 1073741824 → 0 ≤ D c ∧ D c ≤ U c)) ∧ ∀ c, D c = 0 → U c = 0
/-- w: what is wanted; L: the greatest number taken; K: the numbers at which the turns were put; x: what is being spread -/
def zJ (b : Int → Int) (h : Int) (D : Int → Int) (w : Int) (U : Int → Int) (L : Int) (K : Int → Int) (hS tS : Int) (s : Int → Int) (hT tT : Int) (t : Int → Int) (x : Int) : Prop := zLS U L hS tS s ∧ zLT U K L h hT tT t ∧ zUD D U ∧ (∀ c, 0 ≤ c → c < 2048 → U c < 1073741824 → c ≠ x → zPS hS tS s c ∨ zPT U K hT tT t c ∨ zClo b h U L c) ∧ (U w < 1073741824 → zPS hS tS s w ∨ zPT U K hT tT t w) ∧ 0 ≤ L
theorem zLnn {t0 : Int} {s : Int → Int} (h0 : 0 ≤ t0) (h1 : ∀ i, 0 ≤ i → i < t0 → 0 ≤ s i ∧ s i < 2048) (h2 : ∀ i j, 0 ≤ i → i < j → j < t0 → s i ≠ s j) : t0 ≤ 2048 := by
  have := zpig 2048 t0.toNat s (fun i a b => h1 i a (by omega)) (fun i j a b c => h2 i j a b (by omega))
  omega
theorem zJ.tl {b : Int → Int} {h : Int} {D : Int → Int} {w : Int} {U : Int → Int} {L : Int} {K : Int → Int} {hS tS : Int} {s : Int → Int} {hT tT : Int} {t : Int → Int} {x : Int} (H : zJ b h D w U L K hS tS s hT tT t x) : tS ≤ 2048 ∧ tT ≤ 2048 := by
  obtain ⟨⟨a1, a2, a3, a4⟩, ⟨b1, b2, b3, b4⟩, -⟩ := H
  exact ⟨zLnn (by omega) (fun i i0 i1 => (a2 i i0 i1).1) (fun i j i0 ij j1 => (a3 i j i0 ij j1).1), zLnn (by omega) (fun i i0 i1 => (b2 i i0 i1).1) (fun i j i0 ij j1 => (b3 i j i0 ij j1).1)⟩
theorem zClo.le {b : Int → Int} {h L L' c : Int} {U U' : Int → Int} (H : zClo b h U L c) (hL : L ≤ L') (hc : U' c = U c) (hU : ∀ y, U' y ≤ U y) : zClo b h U' L' c := by
  refine ⟨by have := H.1; omega, fun c' w a => ?_⟩
  have := H.2 c' w a
  have := hU c'
  omega
/-- a step's reach -/
theorem zJ.rS {b : Int → Int} {h gx gy : Int} {D : Int → Int} {w : Int} {U : Int → Int} {L : Int} {K : Int → Int} {hS tS : Int} {s : Int → Int} {hT tT : Int} {t : Int → Int} {x c' : Int} {U' s' : Int → Int} (H : zJ b h D w U L K hS tS s hT tT t x) (hD : zDF b h gx gy D) (hh : 1 ≤ h ∧ h ≤ 8) (hc : zad b h c' x 1) (hx : U x = L ∧ L < 1073741824) (hlt : ¬ U c' ≤ L + 1) (hU : ∀ y, U' y = if y = c' then L + 1 else U y) (hs : ∀ i, s' i = if i = tS then c' else s i) : zJ b h D w U' L K hS (tS + 1) s' hT tT t x := by
  obtain ⟨⟨a1, a2, a3, a4⟩, ⟨b1, b2, b3, b4⟩, ⟨d1, d2⟩, p, q, l0⟩ := H
  obtain ⟨D1, D2, D3, D4⟩ := hD
  have r := hc.1.1
  have rx := hc.2.1.1
  have uc := d1 c' r.1 r.2
  have e1 : U' c' = L + 1 := by rw [hU, if_pos rfl]
  have e2 : ∀ y, y ≠ c' → U' y = U y := fun y hy => by rw [hU, if_neg hy]
  have le : ∀ y, U' y ≤ U y := fun y => by
    by_cases k : y = c'
    · subst k; omega
    · rw [e2 y k]; omega
  have s1 : s' tS = c' := by rw [hs, if_pos rfl]
  have s2 : ∀ i, i < tS → s' i = s i := fun i hi => by rw [hs, if_neg (by omega)]
  have ne : ∀ i, 0 ≤ i → i < tS → s i ≠ c' := fun i i0 i1 k => by
    have := (a2 i i0 i1).2.1
    rw [k] at this
    exact hlt this
  refine ⟨⟨by omega, fun i i0 i1 => ?_, fun i j i0 ij j1 => ?_, fun i i0 i1 => ?_⟩, ⟨b1, fun j j0 j1 => ?_, b3, b4⟩, ⟨fun c c0 c1 => ?_, fun c hc => ?_⟩, fun c c0 c1 cb cx => ?_, fun wb => ?_, l0⟩
  · by_cases k : i = tS
    · rw [k, s1, e1]; omega
    · have := a2 i i0 (by omega)
      rw [s2 i (by omega), e2 _ (ne i i0 (by omega))]
      exact this
  · have ni := ne i i0 (by omega)
    have ai := a2 i i0 (by omega)
    rw [s2 i (by omega), e2 _ ni]
    by_cases k : j = tS
    · rw [k, s1, e1]
      exact ⟨ni, ai.2.1⟩
    · rw [s2 j (by omega), e2 _ (ne j (by omega) (by omega))]
      exact a3 i j i0 ij (by omega)
  · by_cases k : i = tS
    · rw [k, s1, e1]; omega
    · rw [s2 i (by omega), e2 _ (ne i (by omega) (by omega))]
      exact a4 i i0 (by omega)
  · have := b2 j j0 j1
    have := le (t j)
    omega
  · by_cases k : c = c'
    · rw [k, e1]
      have dx := d1 x rx.1 rx.2
      have := D2 c' x 1 hc (by omega)
      omega
    · rw [e2 c k]
      exact d1 c c0 c1
  · have uc := d2 c hc
    by_cases k : c = c'
    · rw [k] at uc; omega
    · rw [e2 c k]; exact uc
  · by_cases k : c = c'
    · exact .inl ⟨tS, by omega, by omega, by rw [s1, k]⟩
    · rw [e2 c k] at cb
      rcases p c c0 c1 cb cx with ⟨i, i0, i1, i2⟩ | ⟨j, j0, j1, j2, j3⟩ | cl
      · exact .inl ⟨i, i0, by omega, by rw [s2 i i1]; exact i2⟩
      · exact .inr (.inl ⟨j, j0, j1, j2, by rw [e2 c k]; exact j3⟩)
      · exact .inr (.inr (cl.le (Int.le_refl _) (e2 c k) le))
  · by_cases k : w = c'
    · exact .inl ⟨tS, by omega, by omega, by rw [s1, k]⟩
    · rw [e2 w k] at wb
      rcases q wb with ⟨i, i0, i1, i2⟩ | ⟨j, j0, j1, j2, j3⟩
      · exact .inl ⟨i, i0, by omega, by rw [s2 i i1]; exact i2⟩
      · exact .inr ⟨j, j0, j1, j2, by rw [e2 w k]; exact j3⟩
/-- a turn's reach -/
theorem zJ.rT {b : Int → Int} {h gx gy : Int} {D : Int → Int} {w : Int} {U : Int → Int} {L : Int} {K : Int → Int} {hS tS : Int} {s : Int → Int} {hT tT : Int} {t : Int → Int} {x c' : Int} {U' t' : Int → Int} (H : zJ b h D w U L K hS tS s hT tT t x) (hD : zDF b h gx gy D) (hh : 1 ≤ h ∧ h ≤ 8) (hc : zad b h c' x (4 * h)) (hx : U x = L ∧ L < 1073741824) (hlt : ¬ U c' ≤ L + 4 * h) (hU : ∀ y, U' y = if y = c' then L + 4 * h else U y) (hs : ∀ i, t' i = if i = tT then c' else t i) : zJ b h D w U' L (fun i => if i = tT then L + 4 * h else K i) hS tS s hT (tT + 1) t' x := by
  obtain ⟨⟨a1, a2, a3, a4⟩, ⟨b1, b2, b3, b4⟩, ⟨d1, d2⟩, p, q, l0⟩ := H
  obtain ⟨D1, D2, D3, D4⟩ := hD
  have r := hc.1.1
  have rx := hc.2.1.1
  have uc := d1 c' r.1 r.2
  have e1 : U' c' = L + 4 * h := by rw [hU, if_pos rfl]
  have e2 : ∀ y, y ≠ c' → U' y = U y := fun y hy => by rw [hU, if_neg hy]
  have le : ∀ y, U' y ≤ U y := fun y => by
    by_cases k : y = c'
    · subst k; omega
    · rw [e2 y k]; omega
  have s1 : t' tT = c' := by rw [hs, if_pos rfl]
  have s2 : ∀ i, i < tT → t' i = t i := fun i hi => by rw [hs, if_neg (by omega)]
  have k2 : ∀ i, i < tT → (if i = tT then L + 4 * h else K i) = K i := fun i hi => if_neg (by omega)
  have nS : ∀ i, 0 ≤ i → i < tS → s i ≠ c' := fun i i0 i1 k => by
    have := (a2 i i0 i1).2.1
    rw [k] at this
    omega
  have ne : ∀ i, 0 ≤ i → i < tT → t i ≠ c' := fun i i0 i1 k => by
    have := b2 i i0 i1
    rw [k] at this
    omega
  refine ⟨⟨a1, fun i i0 i1 => ?_, fun i j i0 ij j1 => ?_, fun i i0 i1 => ?_⟩, ⟨by omega, fun j j0 j1 => ?_, fun i j i0 ij j1 => ?_, fun i i0 i1 => ?_⟩, ⟨fun c c0 c1 => ?_, fun c hc => ?_⟩, fun c c0 c1 cb cx => ?_, fun wb => ?_, l0⟩
  · rw [e2 _ (nS i i0 i1)]
    exact a2 i i0 i1
  · rw [e2 _ (nS i i0 (by omega)), e2 _ (nS j (by omega) j1)]
    exact a3 i j i0 ij j1
  · rw [e2 _ (nS i (by omega) i1)]
    exact a4 i i0 i1
  · dsimp only
    by_cases k : j = tT
    · rw [k, s1, e1, if_pos rfl]; omega
    · rw [s2 j (by omega), e2 _ (ne j j0 (by omega)), k2 j (by omega)]
      exact b2 j j0 (by omega)
  · dsimp only
    have ni := ne i i0 (by omega)
    have bi := b2 i i0 (by omega)
    rw [s2 i (by omega), k2 i (by omega)]
    by_cases k : j = tT
    · rw [k, s1, if_pos rfl]
      exact ⟨ni, bi.2.2.1⟩
    · rw [s2 j (by omega), k2 j (by omega)]
      exact b3 i j i0 ij (by omega)
  · dsimp only
    by_cases k : i = tT
    · rw [if_pos k]; omega
    · rw [if_neg k]
      exact b4 i i0 (by omega)
  · by_cases k : c = c'
    · rw [k, e1]
      have dx := d1 x rx.1 rx.2
      have := D2 c' x (4 * h) hc (by omega)
      omega
    · rw [e2 c k]
      exact d1 c c0 c1
  · have uc := d2 c hc
    by_cases k : c = c'
    · rw [k] at uc; omega
    · rw [e2 c k]; exact uc
  · by_cases k : c = c'
    · exact .inr (.inl ⟨tT, by omega, by omega, by rw [s1, k], by rw [k, e1]; exact (if_pos rfl).symm⟩)
    · rw [e2 c k] at cb
      rcases p c c0 c1 cb cx with ⟨i, i0, i1, i2⟩ | ⟨j, j0, j1, j2, j3⟩ | cl
      · exact .inl ⟨i, i0, i1, i2⟩
      · exact .inr (.inl ⟨j, j0, by omega, by rw [s2 j j1]; exact j2, by rw [e2 c k]; dsimp only; rw [k2 j j1]; exact j3⟩)
      · exact .inr (.inr (cl.le (Int.le_refl _) (e2 c k) le))
  · by_cases k : w = c'
    · exact .inr ⟨tT, by omega, by omega, by rw [s1, k], by rw [k, e1]; exact (if_pos rfl).symm⟩
    · rw [e2 w k] at wb
      rcases q wb with ⟨i, i0, i1, i2⟩ | ⟨j, j0, j1, j2, j3⟩
      · exact .inl ⟨i, i0, i1, i2⟩
      · exact .inr ⟨j, j0, by omega, by rw [s2 j j1]; exact j2, by rw [e2 w k]; dsimp only; rw [k2 j j1]; exact j3⟩
/-- what was spread is closed -/
theorem zJ.cl {b : Int → Int} {h : Int} {D : Int → Int} {w : Int} {U : Int → Int} {L : Int} {K : Int → Int} {hS tS : Int} {s : Int → Int} {hT tT : Int} {t : Int → Int} {x : Int} (H : zJ b h D w U L K hS tS s hT tT t x) (hx : U x = L) (hr : ∀ c' w, zad b h c' x w → U c' ≤ U x + w) : zJ b h D w U L K hS tS s hT tT t (-1) := by
  obtain ⟨a, b', d, p, q, l0⟩ := H
  refine ⟨a, b', d, fun c c0 c1 cb _ => ?_, q, l0⟩
  by_cases k : c = x
  · exact .inr (.inr ⟨by rw [k]; omega, by rw [k]; exact hr⟩)
  · exact p c c0 c1 cb k
/-- taken from the line of steps -/
theorem zJ.tS {b : Int → Int} {h : Int} {D : Int → Int} {w : Int} {U : Int → Int} {L : Int} {K : Int → Int} {hS tS : Int} {s : Int → Int} {hT tT : Int} {t : Int → Int} (H : zJ b h D w U L K hS tS s hT tT t (-1)) (h1 : hS < tS) (h2 : hT < tT → U (s hS) ≤ U (t hT)) (h3 : s hS ≠ w) : zJ b h D w U (U (s hS)) K (hS + 1) tS s hT tT t (s hS) := by
  obtain ⟨⟨a1, a2, a3, a4⟩, ⟨b1, b2, b3, b4⟩, d, p, q, l0⟩ := H
  have lL := a4 hS (Int.le_refl _) h1
  refine ⟨⟨by omega, fun i i0 i1 => ?_, a3, fun i i0 i1 => (a3 hS i (by omega) (by omega) i1).2⟩, ⟨b1, fun j j0 j1 => ?_, b3, fun j j0 j1 => ?_⟩, d, fun c c0 c1 cb cx => ?_, fun wb => ?_, by omega⟩
  · have := a2 i i0 i1
    exact ⟨this.1, by omega, this.2.2⟩
  · have := b2 j j0 j1
    exact ⟨this.1, this.2.1, by omega, this.2.2.2⟩
  · have e1 := h2 (by omega)
    have e2 := b2 hT b1.1 (by omega)
    by_cases k : j = hT
    · rw [k]; omega
    · have := (b3 hT j b1.1 (by omega) j1).2
      omega
  · rcases p c c0 c1 cb (by omega) with ⟨i, i0, i1, i2⟩ | pt | cl
    · exact .inl ⟨i, by
        by_cases k : i = hS
        · rw [k] at i2; exact absurd i2.symm cx
        · omega, i1, i2⟩
    · exact .inr (.inl pt)
    · exact .inr (.inr (cl.le lL rfl (fun _ => Int.le_refl _)))
  · rcases q wb with ⟨i, i0, i1, i2⟩ | pt
    · exact .inl ⟨i, by
        by_cases k : i = hS
        · rw [k] at i2; exact absurd i2 h3
        · omega, i1, i2⟩
    · exact .inr pt
/-- taken from the line of turns, as it was put -/
theorem zJ.tT {b : Int → Int} {h : Int} {D : Int → Int} {w : Int} {U : Int → Int} {L : Int} {K : Int → Int} {hS tS : Int} {s : Int → Int} {hT tT : Int} {t : Int → Int} (H : zJ b h D w U L K hS tS s hT tT t (-1)) (h1 : hT < tT) (h2 : hS < tS → U (t hT) < U (s hS)) (h3 : t hT ≠ w) (h4 : U (t hT) = K hT) : zJ b h D w U (U (t hT)) K hS tS s (hT + 1) tT t (t hT) := by
  obtain ⟨⟨a1, a2, a3, a4⟩, ⟨b1, b2, b3, b4⟩, d, p, q, l0⟩ := H
  have lL := b4 hT (Int.le_refl _) h1
  refine ⟨⟨a1, fun i i0 i1 => ?_, a3, fun i i0 i1 => ?_⟩, ⟨by omega, fun j j0 j1 => ?_, b3, fun j j0 j1 => ?_⟩, d, fun c c0 c1 cb cx => ?_, fun wb => ?_, by omega⟩
  · have := a2 i i0 i1
    exact ⟨this.1, by omega, this.2.2⟩
  · have e1 := h2 (by omega)
    by_cases k : i = hS
    · rw [k]; omega
    · have := (a3 hS i a1.1 (by omega) i1).2
      omega
  · have := b2 j j0 j1
    exact ⟨this.1, this.2.1, by omega, this.2.2.2⟩
  · have := (b3 hT j b1.1 (by omega) j1).2
    omega
  · rcases p c c0 c1 cb (by omega) with ps | ⟨i, i0, i1, i2, i3⟩ | cl
    · exact .inl ps
    · exact .inr (.inl ⟨i, by
        by_cases k : i = hT
        · rw [k] at i2; exact absurd i2.symm cx
        · omega, i1, i2, i3⟩)
    · exact .inr (.inr (cl.le (by omega) rfl (fun _ => Int.le_refl _)))
  · rcases q wb with ps | ⟨i, i0, i1, i2, i3⟩
    · exact .inl ps
    · exact .inr ⟨i, by
        by_cases k : i = hT
        · rw [k] at i2; exact absurd i2 h3
        · omega, i1, i2, i3⟩
/-- taken from the line of turns, nearer than it was put: it is closed already -/
theorem zJ.tX {b : Int → Int} {h : Int} {D : Int → Int} {w : Int} {U : Int → Int} {L : Int} {K : Int → Int} {hS tS : Int} {s : Int → Int} {hT tT : Int} {t : Int → Int} (H : zJ b h D w U L K hS tS s hT tT t (-1)) (h1 : hT < tT) (h2 : hS < tS → U (t hT) < U (s hS)) (h4 : U (t hT) ≠ K hT) : zJ b h D w U L K hS tS s (hT + 1) tT t (-1) ∧ t hT ≠ w ∧ zClo b h U L (t hT) := by
  obtain ⟨⟨a1, a2, a3, a4⟩, ⟨b1, b2, b3, b4⟩, d, p, q, l0⟩ := H
  have bT := b2 hT b1.1 h1
  have nS : ¬ zPS hS tS s (t hT) := fun ⟨i, i0, i1, i2⟩ => by
    have e1 := h2 (by omega)
    by_cases k : i = hS
    · rw [← i2, k] at e1; omega
    · have := (a3 hS i a1.1 (by omega) i1).2
      rw [i2] at this; omega
  have nT : ¬ zPT U K hT tT t (t hT) := fun ⟨i, i0, i1, i2, i3⟩ => by
    by_cases k : i = hT
    · rw [k] at i3; exact h4 i3
    · exact (b3 hT i b1.1 (by omega) i1).1 i2.symm
  refine ⟨⟨⟨a1, a2, a3, a4⟩, ⟨by omega, b2, b3, fun j j0 j1 => b4 j (by omega) j1⟩, d, fun c c0 c1 cb cx => ?_, fun wb => ?_, l0⟩, fun k => ?_, ?_⟩
  · rcases p c c0 c1 cb cx with ps | ⟨i, i0, i1, i2, i3⟩ | cl
    · exact .inl ps
    · exact .inr (.inl ⟨i, by
        by_cases k : i = hT
        · rw [k] at i2 i3; rw [← i2] at i3; exact absurd i3 h4
        · omega, i1, i2, i3⟩)
    · exact .inr (.inr cl)
  · rcases q wb with ps | ⟨i, i0, i1, i2, i3⟩
    · exact .inl ps
    · exact .inr ⟨i, by
        by_cases k : i = hT
        · rw [k] at i2 i3; rw [← i2] at i3; exact absurd i3 h4
        · omega, i1, i2, i3⟩
  · rw [← k] at q
    rcases q bT.2.2.2 with ps | pt
    · exact nS ps
    · exact nT pt
  · rcases p (t hT) bT.1.1 bT.1.2 bT.2.2.2 (by omega) with ps | pt | cl
    · exact absurd ps nS
    · exact absurd pt nT
    · exact cl
/-- what is not farther than all that is pending is known -/
theorem zJ.min {b : Int → Int} {h gx gy : Int} {D : Int → Int} {w : Int} {U : Int → Int} {L : Int} {K : Int → Int} {hS tS : Int} {s : Int → Int} {hT tT : Int} {t : Int → Int} {k : Int} (H : zJ b h D w U L K hS tS s hT tT t (-1)) (hD : zDF b h gx gy D) (hh : 1 ≤ h ∧ h ≤ 8) (hk : k ≤ 1073741824) (hS' : ∀ c, zPS hS tS s c → k ≤ U c) (hT' : ∀ c, zPT U K hT tT t c → k ≤ U c) : ∀ c, 0 ≤ D c → D c ≤ k → U c = D c := by
  obtain ⟨-, -, ⟨d1, d2⟩, p, -, -⟩ := H
  obtain ⟨D1, D2, D3, D4⟩ := hD
  intro c c0 c1
  refine zdij (U := U) (F := D) (E := fun t' t c => zad b h t t' c) (k := k) (fun t ht => ?_) d2 (fun t ht => ?_) (fun t t' c ht hu he => ?_) (D c).toNat c c0 (by omega) c1
  · obtain ⟨c', w', e1, e2, e3⟩ := D1 t ht
    have := zad_w hh e1
    exact ⟨c', w', e1, by omega, e2, e3⟩
  · have r := (D4 t).2.2 (by omega)
    have u := d1 t r.1.1 r.1.2
    have := (D4 t).2.1
    by_cases e : U t < 1073741824
    · exact (u.2 e).2
    · omega
  · have r := (D4 t).2.2 (by omega)
    rcases p t r.1.1 r.1.2 (by omega) (by omega) with ps | pt | cl
    · have := hS' t ps; omega
    · have := hT' t pt; omega
    · exact cl.2 t' c he
/-- U tells the distances up to k -/
def zKn (U D : Int → Int) (k : Int) : Prop := ∀ c v, 0 ≤ c → c < 2048 → 0 ≤ v → v ≤ k → (U c = v ↔ D c = v)
theorem zKn_of {D U : Int → Int} {k : Int} (h1 : zUD D U) (hk : k < 1073741824) (h2 : ∀ c, 0 ≤ D c → D c ≤ k → U c = D c) : zKn U D k := fun c v c0 c1 v0 v1 => by
  have u := h1.1 c c0 c1
  constructor
  · intro e
    have := u.2 (by omega)
    have := h2 c (by omega) (by omega)
    omega
  · intro e
    have := h2 c (by omega) (by omega)
    omega
