/-! WAYS: one state's four moves -/
/-- far after a move m of s was looked at -/
def zfx (b : Int → Int) (h : Int) (f : Int → Int) (s m : Int) : Int → Int := if zrx b h f s m then (fun t => if t = s then f (zmv b s m) + zpm h m else f t) else f
theorem zfx_row {P : zM} {b : Int → Int} {h s m : Int} : (if zrx b h (P 216) s m then zu P 216 s (P 216 (zmv b s m) + zpm h m) else P) 216 = zfx b h (P 216) s m := by
  unfold zfx
  by_cases e : zrx b h (P 216) s m
  · rw [if_pos e, if_pos e]
    funext t
    by_cases e2 : t = s
    · rw [if_pos e2, e2, zus]
    · rw [if_neg e2, zun2 e2]
  · rw [if_neg e, if_neg e]
/-- what is true of far all the time: B bounds it -/
def zfi (b : Int → Int) (h : Int) (g : Int → Prop) (f : Int → Int) : Prop := (∀ t, -1 ≤ f t) ∧ (∀ t, g t → f t = 0) ∧ ∀ t, f t ≠ -1 → ¬ g t → ∃ m, (0 ≤ m ∧ m ≤ 3) ∧ zmv b t m ≠ -1 ∧ f (zmv b t m) ≠ -1 ∧ f (zmv b t m) + zpm h m ≤ f t
theorem zpm_le {h m : Int} (hh : 1 ≤ h ∧ h ≤ 8) : 1 ≤ zpm h m ∧ zpm h m ≤ 32 := by
  unfold zpm
  split <;> omega
theorem zfi.go {b : Int → Int} {h : Int} {g : Int → Prop} {f : Int → Int} {s m : Int} (hh : 1 ≤ h ∧ h ≤ 8) (hm : 0 ≤ m ∧ m ≤ 3) (H : zfi b h g f) : zfi b h g (zfx b h f s m) ∧ ∀ t, f t ≠ -1 → zfx b h f s m t ≠ -1 ∧ zfx b h f s m t ≤ f t := by
  obtain ⟨h1, h2, h3⟩ := H
  have p1 := zpm_le (m := m) hh
  unfold zfx
  by_cases e : zrx b h f s m
  · rw [if_pos e]
    obtain ⟨e1, e2, e3⟩ := e
    have v0 := h1 (zmv b s m)
    have le : ∀ t, f t ≠ -1 → (if t = s then f (zmv b s m) + zpm h m else f t) ≠ -1 ∧ (if t = s then f (zmv b s m) + zpm h m else f t) ≤ f t := fun t ht => by
      by_cases et : t = s
      · rw [if_pos et]; subst et
        rcases e3 with e3 | e3 <;> omega
      · rw [if_neg et]; omega
    have ns : ¬ g s := fun c => by
      have := h2 s c
      rcases e3 with e3 | e3 <;> omega
    refine ⟨⟨fun t => ?_, fun t ht => ?_, fun t ht hg => ?_⟩, le⟩
    · dsimp only
      split
      · omega
      · exact h1 t
    · dsimp only
      have tn : ¬ t = s := fun c => ns (c ▸ ht)
      rw [if_neg tn]
      exact h2 t ht
    · dsimp only at ht ⊢
      by_cases et : t = s
      · subst et
        refine ⟨m, hm, e1, ?_, ?_⟩
        · exact (le _ e2).1
        · have := (le _ e2).2
          rw [if_pos (show t = t from rfl)]
          omega
      · rw [if_neg et] at ht ⊢
        obtain ⟨k, k1, k2, k3, k4⟩ := h3 t ht hg
        have := le _ k3
        exact ⟨k, k1, k2, this.1, by omega⟩
  · rw [if_neg e]
    exact ⟨⟨h1, h2, h3⟩, fun t ht => ⟨ht, Int.le_refl _⟩⟩
