/-! WAYS: pure matters -/
/-- no more different numbers than there are -/
theorem zpig : ∀ (N n : Nat) (f : Int → Int), (∀ i : Int, 0 ≤ i → i < n → 0 ≤ f i ∧ f i < N) → (∀ i j : Int, 0 ≤ i → i < j → j < n → f i ≠ f j) → n ≤ N
  | 0, n, f, h1, _ => by
    by_cases e : n = 0
    · omega
    · have := h1 0 (by omega) (by omega)
      omega
  | N + 1, 0, f, _, _ => by omega
  | N + 1, k + 1, f, h1, h2 => by
    have := zpig N k (fun i => if f i = N then f k else f i) (fun i i0 i1 => by
      have a := h1 i i0 (by omega)
      have b := h1 k (by omega) (by omega)
      have c := h2 i k i0 i1 (by omega)
      by_cases e : f i = N
      · rw [if_pos e]; omega
      · rw [if_neg e]; omega) (fun i j i0 ij j1 => by
      have a := h2 i j i0 ij (by omega)
      have b := h2 i k i0 (by omega) (by omega)
      have c := h2 j k (by omega) j1 (by omega)
      by_cases e : f i = N
      · by_cases e2 : f j = N
        · omega
        · rw [if_pos e, if_neg e2]; omega
      · by_cases e2 : f j = N
        · rw [if_neg e, if_pos e2]; omega
        · rw [if_neg e, if_neg e2]; exact a)
    omega
/-- what is nearer than all that is pending is known: U the class's numbers, F the shortest ones, E t t' c = a move from t' to t at the price c -/
theorem zdij {U F : Int → Int} {E : Int → Int → Int → Prop} {k : Int} (hF : ∀ t, 0 < F t → ∃ t' c, E t' t c ∧ 0 < c ∧ 0 ≤ F t' ∧ F t = F t' + c) (h0 : ∀ t, F t = 0 → U t = 0) (hU : ∀ t, 0 ≤ F t → F t ≤ U t) (hR : ∀ t t' c, 0 ≤ F t → U t < k → E t t' c → U t' ≤ U t + c) : ∀ (n : Nat) (t : Int), 0 ≤ F t → F t ≤ n → F t ≤ k → U t = F t
  | 0, t, h1, h2, h3 => by
    have e : F t = 0 := by omega
    rw [h0 t e, e]
  | n + 1, t, h1, h2, h3 => by
    by_cases e : F t = 0
    · rw [h0 t e, e]
    · obtain ⟨t', c, a1, a2, a3, a4⟩ := hF t (by omega)
      have b := zdij hF h0 hU hR n t' a3 (by omega) (by omega)
      have d := hR t' t c a3 (by omega) a1
      have g := hU t h1
      omega
/-- shortest distances are one: two that obey the same three rules agree -/
theorem zfar_le {F G : Int → Int} {E : Int → Int → Int → Prop} (hF : ∀ t, 0 < F t → ∃ t' c, E t' t c ∧ 0 < c ∧ 0 ≤ F t' ∧ F t = F t' + c) (h0 : ∀ t, F t = 0 → G t = 0) (hG : ∀ t t' c, 0 ≤ G t → E t t' c → 0 ≤ G t' ∧ G t' ≤ G t + c) : ∀ (n : Nat) (t : Int), 0 ≤ F t → F t ≤ n → 0 ≤ G t ∧ G t ≤ F t
  | 0, t, h1, h2 => by
    have e : F t = 0 := by omega
    rw [h0 t e, e]
    omega
  | n + 1, t, h1, h2 => by
    by_cases e : F t = 0
    · rw [h0 t e, e]
      omega
    · obtain ⟨t', c, a1, a2, a3, a4⟩ := hF t (by omega)
      have b := zfar_le hF h0 hG n t' a3 (by omega)
      have d := hG t' t c b.1 a1
      omega
