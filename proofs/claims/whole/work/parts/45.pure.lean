/-! RUNS BY THEMSELVES -/
def zit {α : Type} (f : α → α) : Nat → α → α
  | 0, x => x
  | n + 1, x => zit f n (f x)
theorem zit_add {α : Type} (f : α → α) : ∀ (a b : Nat) (x : α), zit f (a + b) x = zit f b (zit f a x)
  | 0, b, x => by rw [Nat.zero_add]; rfl
  | a + 1, b, x => by
    rw [Nat.succ_add]
    exact zit_add f a b (f x)
theorem zit_s {α : Type} (f : α → α) (n : Nat) (x : α) : zit f (n + 1) x = f (zit f n x) := zit_add f n 1 x
/-- a pose: x, y, direction, phase -/
abbrev zT4 : Type := Int × Int × Int × Int
def zhx (d : Int) : Int := zHX.getD d.toNat 0
def zhy (d : Int) : Int := zHY.getD d.toNat 0
theorem zh_le {d : Int} (h : 0 ≤ d ∧ d ≤ 15) : (-500 ≤ zhx d ∧ zhx d ≤ 500) ∧ -500 ≤ zhy d ∧ zhy d ≤ 500 := by
  rcases (by omega : d = 0 ∨ d = 1 ∨ d = 2 ∨ d = 3 ∨ d = 4 ∨ d = 5 ∨ d = 6 ∨ d = 7 ∨ d = 8 ∨ d = 9 ∨ d = 10 ∨ d = 11 ∨ d = 12 ∨ d = 13 ∨ d = 14 ∨ d = 15) with rfl | rfl | rfl | rfl | rfl | rfl | rfl | rfl | rfl | rfl | rfl | rfl | rfl | rfl | rfl | rfl <;> decide
def zcd (h d ph : Int) : Int := if 2 * h ≤ ph then (d + 1) % 16 else if ph ≤ -(2 * h) then (d + 15) % 16 else d
def zcp (h ph : Int) : Int := if 2 * h ≤ ph then ph - 2 * h else if ph ≤ -(2 * h) then ph + 2 * h else ph
def zch (h : Int) (p : zT4) : zT4 := (p.1, p.2.1, zcd h p.2.2.1 p.2.2.2, zcp h p.2.2.2)
def zr4 (h l r : Int) (p : zT4) : zT4 := zch h (p.1 + (l + r) * zhx p.2.2.1, p.2.1 + (l + r) * zhy p.2.2.1, p.2.2.1, p.2.2.2 + (r - l))
/-- a good pose, not farther than b -/
def zPk (h b : Int) (p : zT4) : Prop := (-b ≤ p.1 ∧ p.1 ≤ b) ∧ (-b ≤ p.2.1 ∧ p.2.1 ≤ b) ∧ (0 ≤ p.2.2.1 ∧ p.2.2.1 ≤ 15) ∧ -(2 * h) < p.2.2.2 ∧ p.2.2.2 < 2 * h
def z1 (x : Int) : Prop := -1 ≤ x ∧ x ≤ 1
theorem zmul_le {n a A : Int} (hn : 0 ≤ n) (h1 : -A ≤ a) (h2 : a ≤ A) : -(n * A) ≤ n * a ∧ n * a ≤ n * A := by
  have e1 := Int.mul_le_mul_of_nonneg_left h1 hn
  have e2 := Int.mul_le_mul_of_nonneg_left h2 hn
  rw [Int.mul_neg] at e1
  exact ⟨e1, e2⟩
theorem zgo_le {l r x : Int} (hl : z1 l) (hr : z1 r) (hx : -500 ≤ x ∧ x ≤ 500) : -1000 ≤ (l + r) * x ∧ (l + r) * x ≤ 1000 := by
  unfold z1 at hl hr
  rcases (by omega : l + r = -2 ∨ l + r = -1 ∨ l + r = 0 ∨ l + r = 1 ∨ l + r = 2) with e | e | e | e | e <;> rw [e] <;> omega
theorem zcp_le {h ph : Int} (hh : 1 ≤ h) (h1 : -(2 * h) - 2 < ph) (h2 : ph < 2 * h + 2) : -(2 * h) < zcp h ph ∧ zcp h ph < 2 * h := by
  unfold zcp
  split
  · omega
  · split <;> omega
theorem zcd_le {h d ph : Int} (hd : 0 ≤ d ∧ d ≤ 15) : 0 ≤ zcd h d ph ∧ zcd h d ph ≤ 15 := by
  unfold zcd
  split
  · omega
  · split <;> omega
theorem zr4_ok {h l r b : Int} {p : zT4} (hh : 1 ≤ h) (hl : z1 l) (hr : z1 r) (hp : zPk h b p) : zPk h (b + 1000) (zr4 h l r p) := by
  obtain ⟨a1, a2, a3, a4, a5⟩ := hp
  obtain ⟨e1, e2⟩ := zh_le a3
  have e3 := zgo_le hl hr e1
  have e4 := zgo_le hl hr e2
  unfold z1 at hl hr
  refine ⟨?_, ?_, zcd_le a3, zcp_le hh ?_ ?_⟩
  · show -(b + 1000) ≤ p.1 + (l + r) * zhx p.2.2.1 ∧ p.1 + (l + r) * zhx p.2.2.1 ≤ b + 1000
    omega
  · show -(b + 1000) ≤ p.2.1 + (l + r) * zhy p.2.2.1 ∧ p.2.1 + (l + r) * zhy p.2.2.1 ≤ b + 1000
    omega
  · show -(2 * h) - 2 < p.2.2.2 + (r - l)
    omega
  · show p.2.2.2 + (r - l) < 2 * h + 2
    omega
theorem zch_id {h : Int} {p : zT4} (h1 : -(2 * h) < p.2.2.2) (h2 : p.2.2.2 < 2 * h) : zch h p = p := by
  obtain ⟨a, b, c, d⟩ := p
  unfold zch zcd zcp
  dsimp only at h1 h2 ⊢
  rw [if_neg (by omega), if_neg (by omega), if_neg (by omega), if_neg (by omega)]
/-- units up to a change of direction, all at once -/
theorem zr4_many {h l r : Int} {p : zT4} : ∀ (n : Nat), (∀ i : Nat, 1 ≤ i → i < n + 1 → -(2 * h) < p.2.2.2 + i * (r - l) ∧ p.2.2.2 + i * (r - l) < 2 * h) → zit (zr4 h l r) (n + 1) p = zch h (p.1 + (((n : Int) + 1) * (l + r)) * zhx p.2.2.1, p.2.1 + (((n : Int) + 1) * (l + r)) * zhy p.2.2.1, p.2.2.1, p.2.2.2 + ((n : Int) + 1) * (r - l))
  | 0, _ => by
    show zr4 h l r p = _
    unfold zr4
    simp only [Int.natCast_zero, Int.zero_add, Int.one_mul]
  | n + 1, hi => by
    rw [zit_s, zr4_many n (fun i h1 h2 => hi i h1 (by omega))]
    have e := hi (n + 1) (by omega) (by omega)
    rw [zch_id (by dsimp only; exact_mod_cast e.1) (by dsimp only; exact_mod_cast e.2)]
    unfold zr4
    dsimp only
    have c : (((n + 1 : Nat) : Int)) = (n : Int) + 1 := rfl
    have d1 : ((n : Int) + 1 + 1) * (l + r) = ((n : Int) + 1) * (l + r) + (l + r) := by rw [Int.add_mul, Int.one_mul]
    have d2 : ((n : Int) + 1 + 1) * (r - l) = ((n : Int) + 1) * (r - l) + (r - l) := by rw [Int.add_mul, Int.one_mul]
    rw [c, d1, d2, Int.add_mul (((n : Int) + 1) * (l + r)) (l + r) (zhx _), Int.add_mul (((n : Int) + 1) * (l + r)) (l + r) (zhy _), Int.add_assoc, Int.add_assoc, Int.add_assoc]
/-- what a unit gives -/
def ztn (m k p : Int → Int) (a : Int) : Int := if p a < m a then (if k (40 * a + p a) = 0 then 1 else if k (40 * a + p a) = 1 then -1 else 0) else 0
def zsa (m l p g : Int → Int) : Int → Int := fun a => if p a < m a ∧ g a + 1 = l (40 * a + p a) then p a + 1 else p a
def zsg (m l p g : Int → Int) : Int → Int := fun a => if p a < m a then (if g a + 1 = l (40 * a + p a) then 0 else g a + 1) else g a
/-- a run's state: pose, step, places, what is given -/
abbrev zS : Type := zT4 × Int × (Int → Int) × (Int → Int)
def zsp (m k l : Int → Int) (h : Int) (σ : zS) : zS := (zr4 h (ztn m k σ.2.2.1 0) (ztn m k σ.2.2.1 1) σ.1, σ.2.1 + ztn m k σ.2.2.1 2, zsa m l σ.2.2.1 σ.2.2.2, zsg m l σ.2.2.1 σ.2.2.2)
theorem ztn_1 {m k p : Int → Int} {a : Int} : z1 (ztn m k p a) := by
  unfold ztn z1
  split
  · split
    · omega
    · split <;> omega
  · omega
/-- a good cart: counts and lengths -/
def zCt (m l : Int → Int) (h : Int) : Prop := (1 ≤ h ∧ h ≤ 8) ∧ ∀ a, 0 ≤ a → a ≤ 2 → 0 ≤ m a ∧ m a ≤ 40 ∧ ∀ i, 0 ≤ i → i < m a → 1 ≤ l (40 * a + i) ∧ l (40 * a + i) ≤ 200
def zAx (m l p g : Int → Int) : Prop := ∀ a, 0 ≤ a → a ≤ 2 → 0 ≤ p a ∧ p a ≤ m a ∧ (0 ≤ g a ∧ g a ≤ 200) ∧ (p a < m a → g a < l (40 * a + p a))
def zSk (m l : Int → Int) (h u : Int) (σ : zS) : Prop := zPk h (40000 + 1000 * u) σ.1 ∧ (-u ≤ σ.2.1 ∧ σ.2.1 ≤ u) ∧ zAx m l σ.2.2.1 σ.2.2.2
theorem zAx_s {m l p g : Int → Int} {h : Int} (hc : zCt m l h) (hA : zAx m l p g) : zAx m l (zsa m l p g) (zsg m l p g) := by
  intro a h0 h2
  obtain ⟨a1, a2, a4, a3⟩ := hA a h0 h2
  obtain ⟨c1, c2, c3⟩ := hc.2 a h0 h2
  unfold zsa zsg
  by_cases e : p a < m a
  · have e3 := a3 e
    have e4 := c3 (p a) a1 e
    by_cases e2 : g a + 1 = l (40 * a + p a)
    · rw [if_pos ⟨e, e2⟩, if_pos e, if_pos e2]
      refine ⟨by omega, by omega, by omega, fun e4 => ?_⟩
      have := c3 (p a + 1) (by omega) e4
      omega
    · rw [if_neg (fun c => e2 c.2), if_pos e, if_neg e2]
      refine ⟨a1, a2, by omega, fun _ => by omega⟩
  · rw [if_neg (fun c => e c.1), if_neg e]
    exact ⟨a1, a2, a4, a3⟩
theorem zSk_s {m k l : Int → Int} {h u : Int} {σ : zS} (hc : zCt m l h) (hs : zSk m l h u σ) : zSk m l h (u + 1) (zsp m k l h σ) := by
  obtain ⟨s1, s2, s3⟩ := hs
  have e := zr4_ok hc.1.1 (ztn_1 (m := m) (k := k) (p := σ.2.2.1) (a := 0)) (ztn_1 (m := m) (k := k) (p := σ.2.2.1) (a := 1)) s1
  have e2 := ztn_1 (m := m) (k := k) (p := σ.2.2.1) (a := 2)
  unfold z1 at e2
  refine ⟨?_, ?_, zAx_s hc s3⟩
  · rw [show 40000 + 1000 * (u + 1) = 40000 + 1000 * u + 1000 by omega]
    exact e
  · show -(u + 1) ≤ σ.2.1 + ztn m k σ.2.2.1 2 ∧ σ.2.1 + ztn m k σ.2.2.1 2 ≤ u + 1
    omega
/-- all cords are run out -/
abbrev zou (m : Int → Int) (σ : zS) : Prop := σ.2.2.1 0 = m 0 ∧ σ.2.2.1 1 = m 1 ∧ σ.2.2.1 2 = m 2
theorem zr4_0 {h : Int} {p : zT4} (h1 : -(2 * h) < p.2.2.2) (h2 : p.2.2.2 < 2 * h) : zr4 h 0 0 p = p := by
  unfold zr4
  rw [Int.zero_add, Int.zero_mul, Int.zero_mul, Int.add_zero, Int.add_zero, show (0 : Int) - 0 = 0 by omega, Int.add_zero]
  exact zch_id h1 h2
/-- where the cart stands doesn't change any more -/
theorem zou_s {m k l : Int → Int} {h : Int} {σ : zS} (ho : zou m σ) (h1 : -(2 * h) < σ.1.2.2.2) (h2 : σ.1.2.2.2 < 2 * h) : (zsp m k l h σ).1 = σ.1 ∧ (zsp m k l h σ).2.1 = σ.2.1 ∧ zou m (zsp m k l h σ) := by
  obtain ⟨o0, o1, o2⟩ := ho
  have t : ∀ a, σ.2.2.1 a = m a → ztn m k σ.2.2.1 a = 0 := fun a e => by
    unfold ztn
    rw [if_neg (by omega)]
  refine ⟨?_, ?_, ?_⟩
  · show zr4 h (ztn m k σ.2.2.1 0) (ztn m k σ.2.2.1 1) σ.1 = σ.1
    rw [t 0 o0, t 1 o1]
    exact zr4_0 h1 h2
  · show σ.2.1 + ztn m k σ.2.2.1 2 = σ.2.1
    rw [t 2 o2, Int.add_zero]
  · refine ⟨?_, ?_, ?_⟩
    · show zsa m l σ.2.2.1 σ.2.2.2 0 = m 0
      unfold zsa
      rw [if_neg (by omega), o0]
    · show zsa m l σ.2.2.1 σ.2.2.2 1 = m 1
      unfold zsa
      rw [if_neg (by omega), o1]
    · show zsa m l σ.2.2.1 σ.2.2.2 2 = m 2
      unfold zsa
      rw [if_neg (by omega), o2]
