/-! THE CLASS AGAINST THE REFERENCE: M holds the class's objects (1 .. 177), P the reference's (178 .. 221) -/
/-- cords of a cart at c against counts m and rows k l w -/
def zRc (M : zM) (c : Int) (m k l w : Int → Int) : Prop := ∀ a, 0 ≤ a → a ≤ 2 → M (c + 3 + 4 * a) 0 = m a ∧ 0 ≤ m a ∧ m a ≤ 40 ∧ ∀ i, 0 ≤ i → i < m a →
  M (c + 4 + 4 * a) i = k (40 * a + i) ∧ M (c + 5 + 4 * a) i = l (40 * a + i) ∧ M (c + 6 + 4 * a) i = w (40 * a + i) ∧ 0 ≤ k (40 * a + i) ∧ k (40 * a + i) ≤ 3 ∧ 1 ≤ l (40 * a + i) ∧ l (40 * a + i) ≤ 200 ∧ 0 ≤ w (40 * a + i) ∧ w (40 * a + i) ≤ 1
/-- pegs of a cart at c against n steps s and acts t -/
def zRp (M : zM) (c n : Int) (s t : Int → Int) : Prop := M c 2 = n ∧ 0 ≤ n ∧ n ≤ 12 ∧ (∀ j, 0 ≤ j → j < n → -400 ≤ s j ∧ s j ≤ 400 ∧ 1 ≤ t j ∧ t j ≤ 9 ∧ M (c + 2) (s j + 400) = t j) ∧ (∀ i j, 0 ≤ i → i < j → j < n → s i ≠ s j) ∧ ∀ y, 0 ≤ y → y ≤ 800 → M (c + 2) y ≠ 0 → ∃ j, 0 ≤ j ∧ j < n ∧ s j + 400 = y
def zRb (M P : zM) : Prop := (∀ y, 0 ≤ y → y < 1024 → M 19 y = P 185 y ∧ (P 185 y = 0 ∨ P 185 y = 1)) ∧ M 18 1 = zsm (P 185) 0 1024
def zRs (M P : zM) : Prop := M 17 0 = 1000 * P 178 10 + 500 ∧ M 17 1 = 1000 * P 178 11 + 500 ∧ M 17 2 = P 178 12 ∧ M 17 3 = 0 ∧ M 17 4 = 0 ∧ (0 ≤ P 178 10 ∧ P 178 10 ≤ 31) ∧ (0 ≤ P 178 11 ∧ P 178 11 ≤ 31) ∧ 0 ≤ P 178 12 ∧ P 178 12 ≤ 15
def zRw (M P : zM) : Prop := M 25 1 = P 178 13 ∧ (1 ≤ P 178 13 ∧ P 178 13 ≤ 30) ∧ M 25 2 = P 178 15 ∧ (1 ≤ P 178 15 ∧ P 178 15 ≤ 9) ∧ M 25 3 = P 178 16 ∧ (0 ≤ P 178 16 ∧ P 178 16 ≤ 4000) ∧ ∀ i, 0 ≤ i → i < P 178 13 → M 26 i = P 186 i ∧ 0 ≤ P 186 i ∧ P 186 i ≤ 9
def zpart (k a b : Int) : Prop := (k = 0 ∧ (0 ≤ a ∧ a ≤ 31) ∧ 0 ≤ b ∧ b ≤ 31) ∨ ((k = 1 ∨ k = 2) ∧ (1 ≤ a ∧ a ≤ 99) ∧ b = 0) ∨ (k = 3 ∧ (0 ≤ a ∧ a ≤ 3) ∧ b = 0)
def zRx (M P : zM) : Prop := M 47 1 = P 178 17 ∧ (0 ≤ P 178 17 ∧ P 178 17 ≤ 20) ∧ ∀ i, 0 ≤ i → i < P 178 17 → M 49 i = P 187 i ∧ M 50 i = P 188 i ∧ M 51 i = P 189 i ∧ zpart (P 187 i) (P 188 i) (P 189 i)
def zRo (M P : zM) : Prop := M 65 2 = P 178 21 ∧ (0 ≤ P 178 21 ∧ P 178 21 ≤ 12) ∧ (∀ i, 0 ≤ i → i < P 178 21 → M 67 i = P 190 i ∧ M 68 i = P 191 i ∧ M 69 i = P 192 i ∧ (1 ≤ P 190 i ∧ P 190 i ≤ 4000) ∧ (0 ≤ P 191 i ∧ P 191 i ≤ 31) ∧ 0 ≤ P 192 i ∧ P 192 i ≤ 31) ∧ ∀ i j, 0 ≤ i → i ≤ j → j < P 178 21 → P 190 i ≤ P 190 j
def zRk (M P : zM) : Prop := M 36 0 = P 178 26 ∧ (P 178 26 = 0 ∨ P 178 26 = 1) ∧ (P 178 26 = 1 → (∀ j, 0 ≤ j → j < 5 → M 37 j = P 193 j) ∧ M 36 2 = P 193 5 ∧ M 36 4 = P 193 6 ∧ M 36 6 = P 193 7 ∧ M 36 7 = P 193 8 ∧ P 193 6 = P 178 28 ∧ (0 ≤ P 178 28 ∧ P 178 28 ≤ 60) ∧ P 178 33 = min (P 193 7) 20 ∧ 0 ≤ P 193 7 ∧
  (∀ i, 0 ≤ i → i < P 178 28 → M 39 i = P 194 i ∧ M 40 i = P 195 i ∧ M 41 i = P 196 i ∧ M 42 i = P 197 i) ∧ ∀ i, 0 ≤ i → i < P 178 33 → M 44 i = P 198 i ∧ M 45 i = P 199 i ∧ M 46 i = P 200 i)
def zRt (M P : zM) : Prop := ∀ d, 0 ≤ d → d ≤ 5 → M (76 + 17 * d) 0 = P 201 d ∧ (0 ≤ P 201 d ∧ P 201 d ≤ 5) ∧
  (1 ≤ P 201 d → P 201 d ≤ 4 → M (76 + 17 * d) 1 = P 202 d ∧ (0 ≤ P 202 d ∧ P 202 d ≤ 64) ∧ ∀ i, 0 ≤ i → i < 64 → M (77 + 17 * d) i = P 203 (64 * d + i)) ∧
  (P 201 d = 5 → zRc M (78 + 17 * d) (fun a => P 204 (3 * d + a)) (fun i => P 205 (120 * d + i)) (fun i => P 206 (120 * d + i)) (fun i => P 207 (120 * d + i)) ∧ M (78 + 17 * d) 3 = P 208 d ∧ (1 ≤ P 208 d ∧ P 208 d ≤ 8) ∧ zRp M (78 + 17 * d) (P 209 d) (fun j => P 210 (12 * d + j)) (fun j => P 211 (12 * d + j)))
/-- all of it; q: so many refusals at most -/
def zRel (q : Int) (M P : zM) : Prop := (zPC M ∧ zPR P) ∧ zRc M 2 (P 179) (P 180) (P 181) (P 182) ∧ (M 2 3 = P 178 5 ∧ 1 ≤ P 178 5 ∧ P 178 5 ≤ 8) ∧ zRp M 2 (P 178 6) (P 183) (P 184) ∧ zRb M P ∧ zRs M P ∧ zRw M P ∧ zRx M P ∧ zRo M P ∧ zRk M P ∧ zRt M P ∧ M 1 9 = P 178 25 ∧ 0 ≤ P 178 25 ∧ P 178 25 ≤ q
/-- one call on either side -/
def zOpn (q : Int) (k k' : Nat) (al al' : List zV) (M P : zM) (n m : Nat) : Prop := ∃ v M1 P1, zex k 0 [] ((2, 1) :: al) M (zKs, n, m) = some ((0, v), M1, (zKs, n, m)) ∧ zCf M M1 ∧ zex k' 0 [] ((2, 178) :: al') P (zKs, n, m) = some ((0, v), P1, (zKs, n, m)) ∧ zRf P P1 ∧ zRel q M1 P1
theorem zRc.of {M M' : zM} {c : Int} {m k l w m' k' l' w' : Int → Int} (h : zRc M c m k l w) (hM : ∀ r y, c + 3 ≤ r → r ≤ c + 14 → M' r y = M r y) (hm : ∀ a, 0 ≤ a → a ≤ 2 → m' a = m a) (hk : ∀ i, 0 ≤ i → i < 120 → k' i = k i ∧ l' i = l i ∧ w' i = w i) : zRc M' c m' k' l' w' := by
  intro a h0 h2
  obtain ⟨g1, g2, g3, g4⟩ := h a h0 h2
  rw [hM _ _ (by omega) (by omega), hm a h0 h2]
  refine ⟨g1, g2, g3, fun i hi hn => ?_⟩
  obtain ⟨f1, f2, f3⟩ := hk (40 * a + i) (by omega) (by omega)
  rw [hM _ _ (by omega) (by omega), hM _ _ (by omega) (by omega), hM _ _ (by omega) (by omega), f1, f2, f3]
  exact g4 i hi hn
theorem zRp.of {M M' : zM} {c n n' : Int} {s t s' t' : Int → Int} (h : zRp M c n s t) (h2 : M' c 2 = M c 2) (hM : ∀ y, M' (c + 2) y = M (c + 2) y) (hn : n' = n) (hs : ∀ j, 0 ≤ j → j < 12 → s' j = s j ∧ t' j = t j) : zRp M' c n' s' t' := by
  subst hn
  obtain ⟨g1, g2, g3, g4, g5, g6⟩ := h
  refine ⟨h2.trans g1, g2, g3, fun j h0 hj => ?_, fun i j h0 hij hj => ?_, fun y h0 hy hx => ?_⟩
  · obtain ⟨f1, f2⟩ := hs j h0 (by omega)
    rw [f1, f2, hM]
    exact g4 j h0 hj
  · rw [(hs i h0 (by omega)).1, (hs j (by omega) (by omega)).1]
    exact g5 i j h0 hij hj
  · rw [hM] at hx
    obtain ⟨j, f1, f2, f3⟩ := g6 y h0 hy hx
    exact ⟨j, f1, f2, by rw [(hs j f1 (by omega)).1]; exact f3⟩
theorem zRb.of {M M' P P' : zM} (h : zRb M P) (h1 : ∀ y, M' 19 y = M 19 y) (h2 : M' 18 1 = M 18 1) (h3 : ∀ y, P' 185 y = P 185 y) : zRb M' P' := by
  have e : P' 185 = P 185 := funext h3
  unfold zRb
  rw [e, h2]
  exact ⟨fun y h4 h5 => by rw [h1]; exact h.1 y h4 h5, h.2⟩
theorem zRs.of {M M' P P' : zM} (h : zRs M P) (h1 : ∀ y, M' 17 y = M 17 y) (h2 : P' 178 10 = P 178 10) (h3 : P' 178 11 = P 178 11) (h4 : P' 178 12 = P 178 12) : zRs M' P' := by
  unfold zRs
  rw [h1, h1, h1, h1, h1, h2, h3, h4]
  exact h
theorem zRw.of {M M' P P' : zM} (h : zRw M P) (h1 : ∀ y, 1 ≤ y → y ≤ 3 → M' 25 y = M 25 y) (h2 : ∀ y, M' 26 y = M 26 y) (h3 : P' 178 13 = P 178 13) (h4 : P' 178 15 = P 178 15) (h5 : P' 178 16 = P 178 16) (h6 : ∀ y, P' 186 y = P 186 y) : zRw M' P' := by
  unfold zRw
  rw [h1 1 (by omega) (by omega), h1 2 (by omega) (by omega), h1 3 (by omega) (by omega), funext h2, h3, h4, h5, funext h6]
  exact h
theorem zRx.of {M M' P P' : zM} (h : zRx M P) (h1 : M' 47 1 = M 47 1) (h2 : ∀ r y, 49 ≤ r → r ≤ 51 → M' r y = M r y) (h3 : P' 178 17 = P 178 17) (h4 : ∀ r y, 187 ≤ r → r ≤ 189 → P' r y = P r y) : zRx M' P' := by
  unfold zRx
  rw [h1, h3, funext (fun y => h2 49 y (by omega) (by omega)), funext (fun y => h2 50 y (by omega) (by omega)), funext (fun y => h2 51 y (by omega) (by omega)), funext (fun y => h4 187 y (by omega) (by omega)), funext (fun y => h4 188 y (by omega) (by omega)), funext (fun y => h4 189 y (by omega) (by omega))]
  exact h
theorem zRo.of {M M' P P' : zM} (h : zRo M P) (h1 : M' 65 2 = M 65 2) (h2 : ∀ r y, 67 ≤ r → r ≤ 69 → M' r y = M r y) (h3 : P' 178 21 = P 178 21) (h4 : ∀ r y, 190 ≤ r → r ≤ 192 → P' r y = P r y) : zRo M' P' := by
  unfold zRo
  rw [h1, h3, funext (fun y => h2 67 y (by omega) (by omega)), funext (fun y => h2 68 y (by omega) (by omega)), funext (fun y => h2 69 y (by omega) (by omega)), funext (fun y => h4 190 y (by omega) (by omega)), funext (fun y => h4 191 y (by omega) (by omega)), funext (fun y => h4 192 y (by omega) (by omega))]
  exact h
theorem zRk.of {M M' P P' : zM} (h : zRk M P) (h1 : ∀ r y, 36 ≤ r → r ≤ 46 → M' r y = M r y) (h2 : P' 178 26 = P 178 26) (h3 : P' 178 28 = P 178 28) (h4 : P' 178 33 = P 178 33) (h5 : ∀ r y, 193 ≤ r → r ≤ 200 → P' r y = P r y) : zRk M' P' := by
  have e : ∀ r, 36 ≤ r → r ≤ 46 → M' r = M r := fun r a b => funext fun y => h1 r y a b
  have e' : ∀ r, 193 ≤ r → r ≤ 200 → P' r = P r := fun r a b => funext fun y => h5 r y a b
  unfold zRk
  rw [h2, h3, h4, e 36 (by omega) (by omega), e 37 (by omega) (by omega), e 39 (by omega) (by omega), e 40 (by omega) (by omega), e 41 (by omega) (by omega), e 42 (by omega) (by omega), e 44 (by omega) (by omega), e 45 (by omega) (by omega), e 46 (by omega) (by omega), e' 193 (by omega) (by omega), e' 194 (by omega) (by omega), e' 195 (by omega) (by omega), e' 196 (by omega) (by omega), e' 197 (by omega) (by omega), e' 198 (by omega) (by omega), e' 199 (by omega) (by omega), e' 200 (by omega) (by omega)]
  exact h
theorem zRt.of {M M' P P' : zM} (h : zRt M P) (h1 : ∀ r y, 76 ≤ r → r ≤ 177 → M' r y = M r y) (h2 : ∀ r y, 201 ≤ r → r ≤ 211 → P' r y = P r y) : zRt M' P' := by
  have e' : ∀ r, 201 ≤ r → r ≤ 211 → P' r = P r := fun r a b => funext fun y => h2 r y a b
  unfold zRt
  rw [e' 201 (by omega) (by omega), e' 202 (by omega) (by omega), e' 203 (by omega) (by omega), e' 204 (by omega) (by omega), e' 205 (by omega) (by omega), e' 206 (by omega) (by omega), e' 207 (by omega) (by omega), e' 208 (by omega) (by omega), e' 209 (by omega) (by omega), e' 210 (by omega) (by omega), e' 211 (by omega) (by omega)]
  intro d h0 h5
  obtain ⟨g1, g2, g3, g4⟩ := h d h0 h5
  rw [h1 _ _ (by omega) (by omega), h1 _ _ (by omega) (by omega)]
  refine ⟨g1, g2, fun a b => ?_, fun a => ?_⟩
  · obtain ⟨f1, f2, f3⟩ := g3 a b
    exact ⟨f1, f2, fun i hi hj => by rw [h1 _ _ (by omega) (by omega)]; exact f3 i hi hj⟩
  · obtain ⟨f1, f2, f3, f4⟩ := g4 a
    rw [h1 _ _ (by omega) (by omega)]
    exact ⟨f1.of (fun r y hr hr' => h1 r y (by omega) (by omega)) (fun _ _ _ => rfl) (fun _ _ _ => ⟨rfl, rfl, rfl⟩), f2, f3, f4.of (h1 _ _ (by omega) (by omega)) (fun y => h1 _ _ (by omega) (by omega)) rfl (fun _ _ _ => ⟨rfl, rfl⟩)⟩
